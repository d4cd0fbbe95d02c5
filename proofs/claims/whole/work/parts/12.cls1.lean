set_option maxHeartbeats 4000000 in
set_option maxRecDepth 100000 in
theorem c_X1_reset (l : Launch) (E : EE) (b : Nat) (f : Nat → Int32) : GM l yX1_reset wsX1_reset 0 0 E (wF b f) [.ref b] (wF b (fun _ => 0)) (none) := by
  intro sz
  refine Met.ofW (cc := cX1_reset) (maxL := 1) (ret := none) (by decide) rfl ?_
  intro p e s m args below meth c s₁ B hml hv
  obtain ⟨rfl, rfl, hP, hK, hD0, hN⟩ := hv
  have hx := B.exec
  have hb := B.bytes
  have hr := B.returns
  have hts := atoms_spec (ws := wsX1_reset) B.pre
  have hown : s.vm.findClass RX1 = some m.cls := findClass_of_methodNamed B.named
  have hlocks := B.notSynchronized
  have hD := hD0.self (sz := s.heap.size)
  have hA : ∀ q : Nat, s.heap.size ≤ q → va_A (wF b f) s.heap.size q := fun q h => Or.inr h
  have hS : va_S (va_A (wF b f) s.heap.size) s.heap s.heap [] := va_S.rf
  have hl := lv_entry ([.ref b]) (n := 1) (Nat.le_of_ble_eq_true rfl)
  rw [lg_entry_eq]
  generalize (lg_sl ([.ref b]) ++ List.replicate (1 - (lg_sl ([.ref b])).length) Slot.unset).toArray = ls at hl ⊢
  have hl : lv_has ls 1 [(0, .ref b)] := hl
  have hf15 := hts (.fieldLink RX1 15 "PhaseConverter$Phase" "onTime" "I") (List.mem_of_getElem? (i := 2) rfl)
  have hf18 := hts (.fieldLink RX1 18 "PhaseConverter$Phase" "rest" "I") (List.mem_of_getElem? (i := 3) rfl)
  have hf21 := hts (.fieldLink RX1 21 "PhaseConverter$Phase" "onSlots" "I") (List.mem_of_getElem? (i := 4) rfl)
  have hf24 := hts (.fieldLink RX1 24 "PhaseConverter$Phase" "limitEvents" "I") (List.mem_of_getElem? (i := 5) rfl)
  have hf27 := hts (.fieldLink RX1 27 "PhaseConverter$Phase" "skipped" "I") (List.mem_of_getElem? (i := 6) rfl)
  have hf30 := hts (.fieldLink RX1 30 "PhaseConverter$Phase" "pulses" "I") (List.mem_of_getElem? (i := 7) rfl)
  have hf9 := hts (.fieldLink RX1 9 "PhaseConverter$Phase" "current" "I") (List.mem_of_getElem? (i := 1) rfl)
  have hiX1 : ∀ w ∈ u_ws RX1 TX1 7, w ∈ wsX1_reset := memIn [8, 9, 10, 11, 12, 13, 14] rfl
  refine lv_aload_n hx hb dX1_reset_0 rfl (lv_at hl 0 rfl) ?_
  refine lv_iconst (v := 0) hx hb dX1_reset_1 (by decide) ?_
  refine va_put (D := E.1) (ci := 1) (v := .int 0) (ty := .int) (C := RX1) (T := TX1) (N := 7) hx hb hts hiX1 tyX1 tyX1_ok nmX1 hown hK hP hD hS 0 rfl rfl 0 (by decide) hf9 (fun _ h9 => h9) rfl (by decide +kernel) rfl rfl (Nat.le_of_ble_eq_true rfl) dX1_reset_2 (fun H locs hP hD hS => ?_)
  have hP : va_P E.1 vwCl (wF b (upd f 0 0)) H := hP
  have hD : va_D _ (wF b (upd f 0 0)) := hD
  refine lv_aload_n hx hb dX1_reset_5 rfl (lv_at hl 0 rfl) ?_
  refine lv_iconst (v := 0) hx hb dX1_reset_6 (by decide) ?_
  refine va_put (D := E.1) (ci := 1) (v := .int 0) (ty := .int) (C := RX1) (T := TX1) (N := 7) hx hb hts hiX1 tyX1 tyX1_ok nmX1 hown hK hP hD hS 0 rfl rfl 1 (by decide) hf15 (fun _ h9 => h9) rfl (by decide +kernel) rfl rfl (Nat.le_of_ble_eq_true rfl) dX1_reset_7 (fun H locs hP hD hS => ?_)
  have hP : va_P E.1 vwCl (wF b (upd (upd f 0 0) 1 0)) H := hP
  have hD : va_D _ (wF b (upd (upd f 0 0) 1 0)) := hD
  refine lv_aload_n hx hb dX1_reset_10 rfl (lv_at hl 0 rfl) ?_
  refine lv_iconst (v := 0) hx hb dX1_reset_11 (by decide) ?_
  refine va_put (D := E.1) (ci := 1) (v := .int 0) (ty := .int) (C := RX1) (T := TX1) (N := 7) hx hb hts hiX1 tyX1 tyX1_ok nmX1 hown hK hP hD hS 0 rfl rfl 2 (by decide) hf18 (fun _ h9 => h9) rfl (by decide +kernel) rfl rfl (Nat.le_of_ble_eq_true rfl) dX1_reset_12 (fun H locs hP hD hS => ?_)
  have hP : va_P E.1 vwCl (wF b (upd (upd (upd f 0 0) 1 0) 2 0)) H := hP
  have hD : va_D _ (wF b (upd (upd (upd f 0 0) 1 0) 2 0)) := hD
  refine lv_aload_n hx hb dX1_reset_15 rfl (lv_at hl 0 rfl) ?_
  refine lv_iconst (v := 0) hx hb dX1_reset_16 (by decide) ?_
  refine va_put (D := E.1) (ci := 1) (v := .int 0) (ty := .int) (C := RX1) (T := TX1) (N := 7) hx hb hts hiX1 tyX1 tyX1_ok nmX1 hown hK hP hD hS 0 rfl rfl 3 (by decide) hf21 (fun _ h9 => h9) rfl (by decide +kernel) rfl rfl (Nat.le_of_ble_eq_true rfl) dX1_reset_17 (fun H locs hP hD hS => ?_)
  have hP : va_P E.1 vwCl (wF b (upd (upd (upd (upd f 0 0) 1 0) 2 0) 3 0)) H := hP
  have hD : va_D _ (wF b (upd (upd (upd (upd f 0 0) 1 0) 2 0) 3 0)) := hD
  refine lv_aload_n hx hb dX1_reset_20 rfl (lv_at hl 0 rfl) ?_
  refine lv_iconst (v := 0) hx hb dX1_reset_21 (by decide) ?_
  refine va_put (D := E.1) (ci := 1) (v := .int 0) (ty := .int) (C := RX1) (T := TX1) (N := 7) hx hb hts hiX1 tyX1 tyX1_ok nmX1 hown hK hP hD hS 0 rfl rfl 4 (by decide) hf24 (fun _ h9 => h9) rfl (by decide +kernel) rfl rfl (Nat.le_of_ble_eq_true rfl) dX1_reset_22 (fun H locs hP hD hS => ?_)
  have hP : va_P E.1 vwCl (wF b (upd (upd (upd (upd (upd f 0 0) 1 0) 2 0) 3 0) 4 0)) H := hP
  have hD : va_D _ (wF b (upd (upd (upd (upd (upd f 0 0) 1 0) 2 0) 3 0) 4 0)) := hD
  refine lv_aload_n hx hb dX1_reset_25 rfl (lv_at hl 0 rfl) ?_
  refine lv_iconst (v := 0) hx hb dX1_reset_26 (by decide) ?_
  refine va_put (D := E.1) (ci := 1) (v := .int 0) (ty := .int) (C := RX1) (T := TX1) (N := 7) hx hb hts hiX1 tyX1 tyX1_ok nmX1 hown hK hP hD hS 0 rfl rfl 5 (by decide) hf27 (fun _ h9 => h9) rfl (by decide +kernel) rfl rfl (Nat.le_of_ble_eq_true rfl) dX1_reset_27 (fun H locs hP hD hS => ?_)
  have hP : va_P E.1 vwCl (wF b (upd (upd (upd (upd (upd (upd f 0 0) 1 0) 2 0) 3 0) 4 0) 5 0)) H := hP
  have hD : va_D _ (wF b (upd (upd (upd (upd (upd (upd f 0 0) 1 0) 2 0) 3 0) 4 0) 5 0)) := hD
  refine lv_aload_n hx hb dX1_reset_30 rfl (lv_at hl 0 rfl) ?_
  refine lv_iconst (v := 0) hx hb dX1_reset_31 (by decide) ?_
  refine va_put (D := E.1) (ci := 1) (v := .int 0) (ty := .int) (C := RX1) (T := TX1) (N := 7) hx hb hts hiX1 tyX1 tyX1_ok nmX1 hown hK hP hD hS 0 rfl rfl 6 (by decide) hf30 (fun _ h9 => h9) rfl (by decide +kernel) rfl rfl (Nat.le_of_ble_eq_true rfl) dX1_reset_32 (fun H locs hP hD hS => ?_)
  have hP : va_P E.1 vwCl (wF b (upd (upd (upd (upd (upd (upd (upd f 0 0) 1 0) 2 0) 3 0) 4 0) 5 0) 6 0)) H := hP
  have hD : va_D _ (wF b (upd (upd (upd (upd (upd (upd (upd f 0 0) 1 0) 2 0) 3 0) 4 0) 5 0) 6 0)) := hD
  exact gretv hx hb hr hlocks hP hD hS (rfl) dX1_reset_35

set_option maxHeartbeats 4000000 in
set_option maxRecDepth 100000 in
theorem c_X1_copyFrom (l : Launch) (E : EE) (b d : Nat) (f y : Nat → Int32) : GM l yX1_copyFrom wsX1_copyFrom 0 0 E (wF2 b d f y) [.ref b, .ref d] (wF2 b d y y) (none) := by
  intro sz
  refine Met.ofW (cc := cX1_copyFrom) (maxL := 2) (ret := none) (by decide) rfl ?_
  intro p e s m args below meth c s₁ B hml hv
  obtain ⟨rfl, rfl, hP, hK, hD0, hN⟩ := hv
  have hx := B.exec
  have hb := B.bytes
  have hr := B.returns
  have hts := atoms_spec (ws := wsX1_copyFrom) B.pre
  have hown : s.vm.findClass RX1 = some m.cls := findClass_of_methodNamed B.named
  have hlocks := B.notSynchronized
  have hD := hD0.self (sz := s.heap.size)
  have hA : ∀ q : Nat, s.heap.size ≤ q → va_A (wF2 b d f y) s.heap.size q := fun q h => Or.inr h
  have hS : va_S (va_A (wF2 b d f y) s.heap.size) s.heap s.heap [] := va_S.rf
  have hl := lv_entry ([.ref b, .ref d]) (n := 2) (Nat.le_of_ble_eq_true rfl)
  rw [lg_entry_eq]
  generalize (lg_sl ([.ref b, .ref d]) ++ List.replicate (2 - (lg_sl ([.ref b, .ref d])).length) Slot.unset).toArray = ls at hl ⊢
  have hl : lv_has ls 2 [(0, .ref b), (1, .ref d)] := hl
  have hf15 := hts (.fieldLink RX1 15 "PhaseConverter$Phase" "onTime" "I") (List.mem_of_getElem? (i := 2) rfl)
  have hf18 := hts (.fieldLink RX1 18 "PhaseConverter$Phase" "rest" "I") (List.mem_of_getElem? (i := 3) rfl)
  have hf21 := hts (.fieldLink RX1 21 "PhaseConverter$Phase" "onSlots" "I") (List.mem_of_getElem? (i := 4) rfl)
  have hf24 := hts (.fieldLink RX1 24 "PhaseConverter$Phase" "limitEvents" "I") (List.mem_of_getElem? (i := 5) rfl)
  have hf27 := hts (.fieldLink RX1 27 "PhaseConverter$Phase" "skipped" "I") (List.mem_of_getElem? (i := 6) rfl)
  have hf30 := hts (.fieldLink RX1 30 "PhaseConverter$Phase" "pulses" "I") (List.mem_of_getElem? (i := 7) rfl)
  have hf9 := hts (.fieldLink RX1 9 "PhaseConverter$Phase" "current" "I") (List.mem_of_getElem? (i := 1) rfl)
  have hiX1 : ∀ w ∈ u_ws RX1 TX1 7, w ∈ wsX1_copyFrom := memIn [8, 9, 10, 11, 12, 13, 14] rfl
  refine lv_aload_n hx hb dX1_copyFrom_0 rfl (lv_at hl 0 rfl) ?_
  refine lv_aload_n hx hb dX1_copyFrom_1 rfl (lv_at hl 1 rfl) ?_
  refine va_get (D := E.1) (ci := 1) (v := .int (y 0)) (C := RX1) (T := TX1) (N := 7) hx hb hts hiX1 hown hK hP 1 rfl rfl 0 (by decide) hf9 (fun _ h9 => h9) rfl dX1_copyFrom_2 ?_
  refine va_put (D := E.1) (ci := 1) (v := .int (y 0)) (ty := .int) (C := RX1) (T := TX1) (N := 7) hx hb hts hiX1 tyX1 tyX1_ok nmX1 hown hK hP hD hS 0 rfl rfl 0 (by decide) hf9 (fun _ h9 => h9) rfl (by decide +kernel) rfl rfl (Nat.le_of_ble_eq_true rfl) dX1_copyFrom_5 (fun H locs hP hD hS => ?_)
  have hP : va_P E.1 vwCl (wF2 b d (upd f 0 (y 0)) y) H := hP
  have hD : va_D _ (wF2 b d (upd f 0 (y 0)) y) := hD
  refine lv_aload_n hx hb dX1_copyFrom_8 rfl (lv_at hl 0 rfl) ?_
  refine lv_aload_n hx hb dX1_copyFrom_9 rfl (lv_at hl 1 rfl) ?_
  refine va_get (D := E.1) (ci := 1) (v := .int (y 1)) (C := RX1) (T := TX1) (N := 7) hx hb hts hiX1 hown hK hP 1 rfl rfl 1 (by decide) hf15 (fun _ h9 => h9) rfl dX1_copyFrom_10 ?_
  refine va_put (D := E.1) (ci := 1) (v := .int (y 1)) (ty := .int) (C := RX1) (T := TX1) (N := 7) hx hb hts hiX1 tyX1 tyX1_ok nmX1 hown hK hP hD hS 0 rfl rfl 1 (by decide) hf15 (fun _ h9 => h9) rfl (by decide +kernel) rfl rfl (Nat.le_of_ble_eq_true rfl) dX1_copyFrom_13 (fun H locs hP hD hS => ?_)
  have hP : va_P E.1 vwCl (wF2 b d (upd (upd f 0 (y 0)) 1 (y 1)) y) H := hP
  have hD : va_D _ (wF2 b d (upd (upd f 0 (y 0)) 1 (y 1)) y) := hD
  refine lv_aload_n hx hb dX1_copyFrom_16 rfl (lv_at hl 0 rfl) ?_
  refine lv_aload_n hx hb dX1_copyFrom_17 rfl (lv_at hl 1 rfl) ?_
  refine va_get (D := E.1) (ci := 1) (v := .int (y 2)) (C := RX1) (T := TX1) (N := 7) hx hb hts hiX1 hown hK hP 1 rfl rfl 2 (by decide) hf18 (fun _ h9 => h9) rfl dX1_copyFrom_18 ?_
  refine va_put (D := E.1) (ci := 1) (v := .int (y 2)) (ty := .int) (C := RX1) (T := TX1) (N := 7) hx hb hts hiX1 tyX1 tyX1_ok nmX1 hown hK hP hD hS 0 rfl rfl 2 (by decide) hf18 (fun _ h9 => h9) rfl (by decide +kernel) rfl rfl (Nat.le_of_ble_eq_true rfl) dX1_copyFrom_21 (fun H locs hP hD hS => ?_)
  have hP : va_P E.1 vwCl (wF2 b d (upd (upd (upd f 0 (y 0)) 1 (y 1)) 2 (y 2)) y) H := hP
  have hD : va_D _ (wF2 b d (upd (upd (upd f 0 (y 0)) 1 (y 1)) 2 (y 2)) y) := hD
  refine lv_aload_n hx hb dX1_copyFrom_24 rfl (lv_at hl 0 rfl) ?_
  refine lv_aload_n hx hb dX1_copyFrom_25 rfl (lv_at hl 1 rfl) ?_
  refine va_get (D := E.1) (ci := 1) (v := .int (y 3)) (C := RX1) (T := TX1) (N := 7) hx hb hts hiX1 hown hK hP 1 rfl rfl 3 (by decide) hf21 (fun _ h9 => h9) rfl dX1_copyFrom_26 ?_
  refine va_put (D := E.1) (ci := 1) (v := .int (y 3)) (ty := .int) (C := RX1) (T := TX1) (N := 7) hx hb hts hiX1 tyX1 tyX1_ok nmX1 hown hK hP hD hS 0 rfl rfl 3 (by decide) hf21 (fun _ h9 => h9) rfl (by decide +kernel) rfl rfl (Nat.le_of_ble_eq_true rfl) dX1_copyFrom_29 (fun H locs hP hD hS => ?_)
  have hP : va_P E.1 vwCl (wF2 b d (upd (upd (upd (upd f 0 (y 0)) 1 (y 1)) 2 (y 2)) 3 (y 3)) y) H := hP
  have hD : va_D _ (wF2 b d (upd (upd (upd (upd f 0 (y 0)) 1 (y 1)) 2 (y 2)) 3 (y 3)) y) := hD
  refine lv_aload_n hx hb dX1_copyFrom_32 rfl (lv_at hl 0 rfl) ?_
  refine lv_aload_n hx hb dX1_copyFrom_33 rfl (lv_at hl 1 rfl) ?_
  refine va_get (D := E.1) (ci := 1) (v := .int (y 4)) (C := RX1) (T := TX1) (N := 7) hx hb hts hiX1 hown hK hP 1 rfl rfl 4 (by decide) hf24 (fun _ h9 => h9) rfl dX1_copyFrom_34 ?_
  refine va_put (D := E.1) (ci := 1) (v := .int (y 4)) (ty := .int) (C := RX1) (T := TX1) (N := 7) hx hb hts hiX1 tyX1 tyX1_ok nmX1 hown hK hP hD hS 0 rfl rfl 4 (by decide) hf24 (fun _ h9 => h9) rfl (by decide +kernel) rfl rfl (Nat.le_of_ble_eq_true rfl) dX1_copyFrom_37 (fun H locs hP hD hS => ?_)
  have hP : va_P E.1 vwCl (wF2 b d (upd (upd (upd (upd (upd f 0 (y 0)) 1 (y 1)) 2 (y 2)) 3 (y 3)) 4 (y 4)) y) H := hP
  have hD : va_D _ (wF2 b d (upd (upd (upd (upd (upd f 0 (y 0)) 1 (y 1)) 2 (y 2)) 3 (y 3)) 4 (y 4)) y) := hD
  refine lv_aload_n hx hb dX1_copyFrom_40 rfl (lv_at hl 0 rfl) ?_
  refine lv_aload_n hx hb dX1_copyFrom_41 rfl (lv_at hl 1 rfl) ?_
  refine va_get (D := E.1) (ci := 1) (v := .int (y 5)) (C := RX1) (T := TX1) (N := 7) hx hb hts hiX1 hown hK hP 1 rfl rfl 5 (by decide) hf27 (fun _ h9 => h9) rfl dX1_copyFrom_42 ?_
  refine va_put (D := E.1) (ci := 1) (v := .int (y 5)) (ty := .int) (C := RX1) (T := TX1) (N := 7) hx hb hts hiX1 tyX1 tyX1_ok nmX1 hown hK hP hD hS 0 rfl rfl 5 (by decide) hf27 (fun _ h9 => h9) rfl (by decide +kernel) rfl rfl (Nat.le_of_ble_eq_true rfl) dX1_copyFrom_45 (fun H locs hP hD hS => ?_)
  have hP : va_P E.1 vwCl (wF2 b d (upd (upd (upd (upd (upd (upd f 0 (y 0)) 1 (y 1)) 2 (y 2)) 3 (y 3)) 4 (y 4)) 5 (y 5)) y) H := hP
  have hD : va_D _ (wF2 b d (upd (upd (upd (upd (upd (upd f 0 (y 0)) 1 (y 1)) 2 (y 2)) 3 (y 3)) 4 (y 4)) 5 (y 5)) y) := hD
  refine lv_aload_n hx hb dX1_copyFrom_48 rfl (lv_at hl 0 rfl) ?_
  refine lv_aload_n hx hb dX1_copyFrom_49 rfl (lv_at hl 1 rfl) ?_
  refine va_get (D := E.1) (ci := 1) (v := .int (y 6)) (C := RX1) (T := TX1) (N := 7) hx hb hts hiX1 hown hK hP 1 rfl rfl 6 (by decide) hf30 (fun _ h9 => h9) rfl dX1_copyFrom_50 ?_
  refine va_put (D := E.1) (ci := 1) (v := .int (y 6)) (ty := .int) (C := RX1) (T := TX1) (N := 7) hx hb hts hiX1 tyX1 tyX1_ok nmX1 hown hK hP hD hS 0 rfl rfl 6 (by decide) hf30 (fun _ h9 => h9) rfl (by decide +kernel) rfl rfl (Nat.le_of_ble_eq_true rfl) dX1_copyFrom_53 (fun H locs hP hD hS => ?_)
  have hP : va_P E.1 vwCl (wF2 b d (upd (upd (upd (upd (upd (upd (upd f 0 (y 0)) 1 (y 1)) 2 (y 2)) 3 (y 3)) 4 (y 4)) 5 (y 5)) 6 (y 6)) y) H := hP
  have hD : va_D _ (wF2 b d (upd (upd (upd (upd (upd (upd (upd f 0 (y 0)) 1 (y 1)) 2 (y 2)) 3 (y 3)) 4 (y 4)) 5 (y 5)) 6 (y 6)) y) := hD
  exact gretv hx hb hr hlocks hP hD hS (rfl) dX1_copyFrom_56

set_option maxHeartbeats 4000000 in
set_option maxRecDepth 100000 in
theorem c_X1_skipPulse (l : Launch) (E : EE) (b : Nat) (f : Nat → Int32) : GM l yX1_skipPulse wsX1_skipPulse 0 0 E (wF b f) [.ref b] (wF b (upd (upd f 1 0) 5 (f 5 + 1))) (none) := by
  intro sz
  refine Met.ofW (cc := cX1_skipPulse) (maxL := 1) (ret := none) (by decide) rfl ?_
  intro p e s m args below meth c s₁ B hml hv
  obtain ⟨rfl, rfl, hP, hK, hD0, hN⟩ := hv
  have hx := B.exec
  have hb := B.bytes
  have hr := B.returns
  have hts := atoms_spec (ws := wsX1_skipPulse) B.pre
  have hown : s.vm.findClass RX1 = some m.cls := findClass_of_methodNamed B.named
  have hlocks := B.notSynchronized
  have hD := hD0.self (sz := s.heap.size)
  have hA : ∀ q : Nat, s.heap.size ≤ q → va_A (wF b f) s.heap.size q := fun q h => Or.inr h
  have hS : va_S (va_A (wF b f) s.heap.size) s.heap s.heap [] := va_S.rf
  have hl := lv_entry ([.ref b]) (n := 1) (Nat.le_of_ble_eq_true rfl)
  rw [lg_entry_eq]
  generalize (lg_sl ([.ref b]) ++ List.replicate (1 - (lg_sl ([.ref b])).length) Slot.unset).toArray = ls at hl ⊢
  have hl : lv_has ls 1 [(0, .ref b)] := hl
  have hf15 := hts (.fieldLink RX1 15 "PhaseConverter$Phase" "onTime" "I") (List.mem_of_getElem? (i := 1) rfl)
  have hf27 := hts (.fieldLink RX1 27 "PhaseConverter$Phase" "skipped" "I") (List.mem_of_getElem? (i := 2) rfl)
  have hiX1 : ∀ w ∈ u_ws RX1 TX1 7, w ∈ wsX1_skipPulse := memIn [3, 4, 5, 6, 7, 8, 9] rfl
  refine lv_aload_n hx hb dX1_skipPulse_0 rfl (lv_at hl 0 rfl) ?_
  refine lv_iconst (v := 0) hx hb dX1_skipPulse_1 (by decide) ?_
  refine va_put (D := E.1) (ci := 1) (v := .int 0) (ty := .int) (C := RX1) (T := TX1) (N := 7) hx hb hts hiX1 tyX1 tyX1_ok nmX1 hown hK hP hD hS 0 rfl rfl 1 (by decide) hf15 (fun _ h9 => h9) rfl (by decide +kernel) rfl rfl (Nat.le_of_ble_eq_true rfl) dX1_skipPulse_2 (fun H locs hP hD hS => ?_)
  have hP : va_P E.1 vwCl (wF b (upd f 1 0)) H := hP
  have hD : va_D _ (wF b (upd f 1 0)) := hD
  refine lv_aload_n hx hb dX1_skipPulse_5 rfl (lv_at hl 0 rfl) ?_
  refine lv_dup hx hb dX1_skipPulse_6 rfl ?_
  refine va_get (D := E.1) (ci := 1) (v := .int (f 5)) (C := RX1) (T := TX1) (N := 7) hx hb hts hiX1 hown hK hP 0 rfl rfl 5 (by decide) hf27 (fun _ h9 => h9) rfl dX1_skipPulse_7 ?_
  refine lv_iconst (v := 1) hx hb dX1_skipPulse_10 (by decide) ?_
  refine lv_iadd hx hb dX1_skipPulse_11 ?_
  refine va_put (D := E.1) (ci := 1) (v := .int ((f 5) + 1)) (ty := .int) (C := RX1) (T := TX1) (N := 7) hx hb hts hiX1 tyX1 tyX1_ok nmX1 hown hK hP hD hS 0 rfl rfl 5 (by decide) hf27 (fun _ h9 => h9) rfl (by decide +kernel) rfl rfl (Nat.le_of_ble_eq_true rfl) dX1_skipPulse_12 (fun H locs hP hD hS => ?_)
  have hP : va_P E.1 vwCl (wF b (upd (upd f 1 0) 5 ((f 5) + 1))) H := hP
  have hD : va_D _ (wF b (upd (upd f 1 0) 5 ((f 5) + 1))) := hD
  exact gretv hx hb hr hlocks hP hD hS (rfl) dX1_skipPulse_15

set_option maxHeartbeats 4000000 in
set_option maxRecDepth 100000 in
theorem c_X1_beginPulse (l : Launch) (E : EE) (b : Nat) (f : Nat → Int32) (v1 : Int32) : GM l yX1_beginPulse wsX1_beginPulse 0 0 E (wF b f) [.ref b, .int v1] (wF b (bgF v1 f)) (none) := by
  intro sz
  refine Met.ofW (cc := cX1_beginPulse) (maxL := 2) (ret := none) (by decide) rfl ?_
  intro p e s m args below meth c s₁ B hml hv
  obtain ⟨rfl, rfl, hP, hK, hD0, hN⟩ := hv
  have hx := B.exec
  have hb := B.bytes
  have hr := B.returns
  have hts := atoms_spec (ws := wsX1_beginPulse) B.pre
  have hown : s.vm.findClass RX1 = some m.cls := findClass_of_methodNamed B.named
  have hlocks := B.notSynchronized
  have hD := hD0.self (sz := s.heap.size)
  have hA : ∀ q : Nat, s.heap.size ≤ q → va_A (wF b f) s.heap.size q := fun q h => Or.inr h
  have hS : va_S (va_A (wF b f) s.heap.size) s.heap s.heap [] := va_S.rf
  have hl := lv_entry ([.ref b, .int v1]) (n := 2) (Nat.le_of_ble_eq_true rfl)
  rw [lg_entry_eq]
  generalize (lg_sl ([.ref b, .int v1]) ++ List.replicate (2 - (lg_sl ([.ref b, .int v1])).length) Slot.unset).toArray = ls at hl ⊢
  have hl : lv_has ls 2 [(0, .ref b), (1, .int v1)] := hl
  have hf15 := hts (.fieldLink RX1 15 "PhaseConverter$Phase" "onTime" "I") (List.mem_of_getElem? (i := 2) rfl)
  have hf18 := hts (.fieldLink RX1 18 "PhaseConverter$Phase" "rest" "I") (List.mem_of_getElem? (i := 1) rfl)
  have hf30 := hts (.fieldLink RX1 30 "PhaseConverter$Phase" "pulses" "I") (List.mem_of_getElem? (i := 3) rfl)
  have hiX1 : ∀ w ∈ u_ws RX1 TX1 7, w ∈ wsX1_beginPulse := memIn [4, 5, 6, 7, 8, 9, 10] rfl
  refine lv_aload_n hx hb dX1_beginPulse_0 rfl (lv_at hl 0 rfl) ?_
  refine lv_dup hx hb dX1_beginPulse_1 rfl ?_
  refine va_get (D := E.1) (ci := 1) (v := .int (f 2)) (C := RX1) (T := TX1) (N := 7) hx hb hts hiX1 hown hK hP 0 rfl rfl 2 (by decide) hf18 (fun _ h9 => h9) rfl dX1_beginPulse_2 ?_
  refine lv_bipush (v := 20) hx hb dX1_beginPulse_5 (by decide) ?_
  refine lv_iload_n hx hb dX1_beginPulse_7 rfl (lv_at hl 1 rfl) ?_
  refine lv_imul hx hb dX1_beginPulse_8 ?_
  refine lv_iadd hx hb dX1_beginPulse_9 ?_
  refine va_put (D := E.1) (ci := 1) (v := .int ((f 2) + (20 * v1))) (ty := .int) (C := RX1) (T := TX1) (N := 7) hx hb hts hiX1 tyX1 tyX1_ok nmX1 hown hK hP hD hS 0 rfl rfl 2 (by decide) hf18 (fun _ h9 => h9) rfl (by decide +kernel) rfl rfl (Nat.le_of_ble_eq_true rfl) dX1_beginPulse_10 (fun H locs hP hD hS => ?_)
  have hP : va_P E.1 vwCl (wF b (upd f 2 ((f 2) + (20 * v1)))) H := hP
  have hD : va_D _ (wF b (upd f 2 ((f 2) + (20 * v1)))) := hD
  refine lv_aload_n hx hb dX1_beginPulse_13 rfl (lv_at hl 0 rfl) ?_
  refine lv_aload_n hx hb dX1_beginPulse_14 rfl (lv_at hl 0 rfl) ?_
  refine va_get (D := E.1) (ci := 1) (v := .int ((f 2) + (20 * v1))) (C := RX1) (T := TX1) (N := 7) hx hb hts hiX1 hown hK hP 0 rfl rfl 2 (by decide) hf18 (fun _ h9 => h9) rfl dX1_beginPulse_15 ?_
  refine lv_sipush (v := 1000) hx hb dX1_beginPulse_18 (by decide) ?_
  refine lv_idiv hx hb dX1_beginPulse_21 (by decide) ?_
  refine va_put (D := E.1) (ci := 1) (v := .int (((f 2) + (20 * v1)) / 1000)) (ty := .int) (C := RX1) (T := TX1) (N := 7) hx hb hts hiX1 tyX1 tyX1_ok nmX1 hown hK hP hD hS 0 rfl rfl 1 (by decide) hf15 (fun _ h9 => h9) rfl (by decide +kernel) rfl rfl (Nat.le_of_ble_eq_true rfl) dX1_beginPulse_22 (fun H locs hP hD hS => ?_)
  have hP : va_P E.1 vwCl (wF b (upd (upd f 2 ((f 2) + (20 * v1))) 1 (((f 2) + (20 * v1)) / 1000))) H := hP
  have hD : va_D _ (wF b (upd (upd f 2 ((f 2) + (20 * v1))) 1 (((f 2) + (20 * v1)) / 1000))) := hD
  refine lv_aload_n hx hb dX1_beginPulse_25 rfl (lv_at hl 0 rfl) ?_
  refine lv_aload_n hx hb dX1_beginPulse_26 rfl (lv_at hl 0 rfl) ?_
  refine va_get (D := E.1) (ci := 1) (v := .int ((f 2) + (20 * v1))) (C := RX1) (T := TX1) (N := 7) hx hb hts hiX1 hown hK hP 0 rfl rfl 2 (by decide) hf18 (fun _ h9 => h9) rfl dX1_beginPulse_27 ?_
  refine lv_sipush (v := 1000) hx hb dX1_beginPulse_30 (by decide) ?_
  refine lv_irem hx hb dX1_beginPulse_33 (by decide) ?_
  refine va_put (D := E.1) (ci := 1) (v := .int (((f 2) + (20 * v1)) - ((f 2) + (20 * v1)) / 1000 * 1000)) (ty := .int) (C := RX1) (T := TX1) (N := 7) hx hb hts hiX1 tyX1 tyX1_ok nmX1 hown hK hP hD hS 0 rfl rfl 2 (by decide) hf18 (fun _ h9 => h9) rfl (by decide +kernel) rfl rfl (Nat.le_of_ble_eq_true rfl) dX1_beginPulse_34 (fun H locs hP hD hS => ?_)
  have hP : va_P E.1 vwCl (wF b (upd (upd (upd f 2 ((f 2) + (20 * v1))) 1 (((f 2) + (20 * v1)) / 1000)) 2 (((f 2) + (20 * v1)) - ((f 2) + (20 * v1)) / 1000 * 1000))) H := hP
  have hD : va_D _ (wF b (upd (upd (upd f 2 ((f 2) + (20 * v1))) 1 (((f 2) + (20 * v1)) / 1000)) 2 (((f 2) + (20 * v1)) - ((f 2) + (20 * v1)) / 1000 * 1000))) := hD
  refine lv_aload_n hx hb dX1_beginPulse_37 rfl (lv_at hl 0 rfl) ?_
  refine lv_dup hx hb dX1_beginPulse_38 rfl ?_
  refine va_get (D := E.1) (ci := 1) (v := .int (f 6)) (C := RX1) (T := TX1) (N := 7) hx hb hts hiX1 hown hK hP 0 rfl rfl 6 (by decide) hf30 (fun _ h9 => h9) rfl dX1_beginPulse_39 ?_
  refine lv_iconst (v := 1) hx hb dX1_beginPulse_42 (by decide) ?_
  refine lv_iadd hx hb dX1_beginPulse_43 ?_
  refine va_put (D := E.1) (ci := 1) (v := .int ((f 6) + 1)) (ty := .int) (C := RX1) (T := TX1) (N := 7) hx hb hts hiX1 tyX1 tyX1_ok nmX1 hown hK hP hD hS 0 rfl rfl 6 (by decide) hf30 (fun _ h9 => h9) rfl (by decide +kernel) rfl rfl (Nat.le_of_ble_eq_true rfl) dX1_beginPulse_44 (fun H locs hP hD hS => ?_)
  have hP : va_P E.1 vwCl (wF b (upd (upd (upd (upd f 2 ((f 2) + (20 * v1))) 1 (((f 2) + (20 * v1)) / 1000)) 2 (((f 2) + (20 * v1)) - ((f 2) + (20 * v1)) / 1000 * 1000)) 6 ((f 6) + 1))) H := hP
  have hD : va_D _ (wF b (upd (upd (upd (upd f 2 ((f 2) + (20 * v1))) 1 (((f 2) + (20 * v1)) / 1000)) 2 (((f 2) + (20 * v1)) - ((f 2) + (20 * v1)) / 1000 * 1000)) 6 ((f 6) + 1))) := hD
  exact gretv hx hb hr hlocks hP hD hS (rfl) dX1_beginPulse_47

set_option maxHeartbeats 4000000 in
set_option maxRecDepth 100000 in
theorem c_X1_passSlot (l : Launch) (E : EE) (b : Nat) (f : Nat → Int32) (v1 v2 v3 : Int32) : GM l yX1_passSlot wsX1_passSlot 0 0 E (wF b f) [.ref b, .int v1, .int v2, .int v3] (wF b (psF v1 v2 v3 f)) (none) := by
  intro sz
  refine Met.ofW (cc := cX1_passSlot) (maxL := 4) (ret := none) (by decide) rfl ?_
  intro p e s m args below meth c s₁ B hml hv
  obtain ⟨rfl, rfl, hP, hK, hD0, hN⟩ := hv
  have hx := B.exec
  have hb := B.bytes
  have hr := B.returns
  have hts := atoms_spec (ws := wsX1_passSlot) B.pre
  have hown : s.vm.findClass RX1 = some m.cls := findClass_of_methodNamed B.named
  have hlocks := B.notSynchronized
  have hD := hD0.self (sz := s.heap.size)
  have hA : ∀ q : Nat, s.heap.size ≤ q → va_A (wF b f) s.heap.size q := fun q h => Or.inr h
  have hS : va_S (va_A (wF b f) s.heap.size) s.heap s.heap [] := va_S.rf
  have hl := lv_entry ([.ref b, .int v1, .int v2, .int v3]) (n := 4) (Nat.le_of_ble_eq_true rfl)
  rw [lg_entry_eq]
  generalize (lg_sl ([.ref b, .int v1, .int v2, .int v3]) ++ List.replicate (4 - (lg_sl ([.ref b, .int v1, .int v2, .int v3])).length) Slot.unset).toArray = ls at hl ⊢
  have hl : lv_has ls 4 [(0, .ref b), (1, .int v1), (2, .int v2), (3, .int v3)] := hl
  have hf15 := hts (.fieldLink RX1 15 "PhaseConverter$Phase" "onTime" "I") (List.mem_of_getElem? (i := 1) rfl)
  have hf21 := hts (.fieldLink RX1 21 "PhaseConverter$Phase" "onSlots" "I") (List.mem_of_getElem? (i := 4) rfl)
  have hf24 := hts (.fieldLink RX1 24 "PhaseConverter$Phase" "limitEvents" "I") (List.mem_of_getElem? (i := 3) rfl)
  have hf9 := hts (.fieldLink RX1 9 "PhaseConverter$Phase" "current" "I") (List.mem_of_getElem? (i := 2) rfl)
  have hiX1 : ∀ w ∈ u_ws RX1 TX1 7, w ∈ wsX1_passSlot := memIn [5, 6, 7, 8, 9, 10, 11] rfl
  refine lv_aload_n hx hb dX1_passSlot_0 rfl (lv_at hl 0 rfl) ?_
  refine va_get (D := E.1) (ci := 1) (v := .int (f 1)) (C := RX1) (T := TX1) (N := 7) hx hb hts hiX1 hown hK hP 0 rfl rfl 1 (by decide) hf15 (fun _ h9 => h9) rfl dX1_passSlot_1 ?_
  obtain ⟨f_1, ef_1⟩ : ∃ y : Nat → Int32, y = (if (f 1) ≤ 0 then f else (if (f 0) < v1 then f else (upd (upd f 1 0) 4 ((f 4) + 1)))) := ⟨_, rfl⟩
  have f1 : f_1 = ps1 v1 f := ef_1
  have J_4 : ∀ (H : Heap) (locs : List Loc) (ls : Array Slot), va_P E.1 vwCl (wF b f_1) H → va_D (va_A (wF b f) s.heap.size) (wF b f_1) → va_S (va_A (wF b f) s.heap.size) s.heap H locs → lv_has ls 4 [(0, .ref b), (1, .int v1), (2, .int v2), (3, .int v3)] → W p l e (gR wsX1_passSlot 0 0) s m ([.ref b, .int v1, .int v2, .int v3] : List Value).toArray below meth c H locs 0 0 (gMQ below E s (wF b f) (wF b (psF v1 v2 v3 f)) (none) [.ref b, .int v1, .int v2, .int v3]) (F0 m 30 ls []) := by
    intro H locs ls hP hD hS hl
    refine lv_aload_n hx hb dX1_passSlot_30 rfl (lv_at hl 0 rfl) ?_
    refine va_get (D := E.1) (ci := 1) (v := .int (f_1 1)) (C := RX1) (T := TX1) (N := 7) hx hb hts hiX1 hown hK hP 0 rfl rfl 1 (by decide) hf15 (fun _ h9 => h9) rfl dX1_passSlot_31 ?_
    obtain ⟨f_2, ef_2⟩ : ∃ y : Nat → Int32, y = (if (f_1 1) ≤ 0 then (upd f_1 0 ((f_1 0) - v3)) else (upd (upd (upd f_1 1 ((f_1 1) - 1)) 3 ((f_1 3) + 1)) 0 ((f_1 0) + v2))) := ⟨_, rfl⟩
    have f2 : f_2 = ps2 v2 v3 (ps1 v1 f) := by rw [← f1]; exact ef_2
    have J_34 : ∀ (H : Heap) (locs : List Loc) (ls : Array Slot), va_P E.1 vwCl (wF b f_2) H → va_D (va_A (wF b f) s.heap.size) (wF b f_2) → va_S (va_A (wF b f) s.heap.size) s.heap H locs → lv_has ls 4 [(0, .ref b), (1, .int v1), (2, .int v2), (3, .int v3)] → W p l e (gR wsX1_passSlot 0 0) s m ([.ref b, .int v1, .int v2, .int v3] : List Value).toArray below meth c H locs 0 0 (gMQ below E s (wF b f) (wF b (psF v1 v2 v3 f)) (none) [.ref b, .int v1, .int v2, .int v3]) (F0 m 80 ls []) := by
      intro H locs ls hP hD hS hl
      refine lv_aload_n hx hb dX1_passSlot_80 rfl (lv_at hl 0 rfl) ?_
      refine va_get (D := E.1) (ci := 1) (v := .int (f_2 0)) (C := RX1) (T := TX1) (N := 7) hx hb hts hiX1 hown hK hP 0 rfl rfl 0 (by decide) hf9 (fun _ h9 => h9) rfl dX1_passSlot_81 ?_
      refine lv_if_ge (tgt := 92) hx hb dX1_passSlot_84 (by decide) (fun c_84 => ?_) (fun c_84 => ?_)
      · exact gretv hx hb hr hlocks hP hD hS (by simp only [psF, ps3, ← f2, if_pos c_84]) dX1_passSlot_92
      · refine lv_aload_n hx hb dX1_passSlot_87 rfl (lv_at hl 0 rfl) ?_
        refine lv_iconst (v := 0) hx hb dX1_passSlot_88 (by decide) ?_
        refine va_put (D := E.1) (ci := 1) (v := .int 0) (ty := .int) (C := RX1) (T := TX1) (N := 7) hx hb hts hiX1 tyX1 tyX1_ok nmX1 hown hK hP hD hS 0 rfl rfl 0 (by decide) hf9 (fun _ h9 => h9) rfl (by decide +kernel) rfl rfl (Nat.le_of_ble_eq_true rfl) dX1_passSlot_89 (fun H locs hP hD hS => ?_)
        have hP : va_P E.1 vwCl (wF b (upd f_2 0 0)) H := hP
        have hD : va_D _ (wF b (upd f_2 0 0)) := hD
        exact gretv hx hb hr hlocks hP hD hS (by simp only [psF, ps3, ← f2, if_neg c_84]) dX1_passSlot_92
    refine lv_if_le (tgt := 70) hx hb dX1_passSlot_34 (by decide) (fun c_34 => ?_) (fun c_34 => ?_)
    · refine lv_aload_n hx hb dX1_passSlot_70 rfl (lv_at hl 0 rfl) ?_
      refine lv_dup hx hb dX1_passSlot_71 rfl ?_
      refine va_get (D := E.1) (ci := 1) (v := .int (f_1 0)) (C := RX1) (T := TX1) (N := 7) hx hb hts hiX1 hown hK hP 0 rfl rfl 0 (by decide) hf9 (fun _ h9 => h9) rfl dX1_passSlot_72 ?_
      refine lv_iload_n hx hb dX1_passSlot_75 rfl (lv_at hl 3 rfl) ?_
      refine lv_isub hx hb dX1_passSlot_76 ?_
      refine va_put (D := E.1) (ci := 1) (v := .int ((f_1 0) - v3)) (ty := .int) (C := RX1) (T := TX1) (N := 7) hx hb hts hiX1 tyX1 tyX1_ok nmX1 hown hK hP hD hS 0 rfl rfl 0 (by decide) hf9 (fun _ h9 => h9) rfl (by decide +kernel) rfl rfl (Nat.le_of_ble_eq_true rfl) dX1_passSlot_77 (fun H locs hP hD hS => ?_)
      have hP : va_P E.1 vwCl (wF b (upd f_1 0 ((f_1 0) - v3))) H := hP
      have hD : va_D _ (wF b (upd f_1 0 ((f_1 0) - v3))) := hD
      exact J_34 H locs ls (by rw [ef_2]; simp only [if_pos c_34]; exact hP) (by rw [ef_2]; simp only [if_pos c_34]; exact hD) hS (lv_sub hl [0, 1, 2, 3] rfl)
    · refine lv_aload_n hx hb dX1_passSlot_37 rfl (lv_at hl 0 rfl) ?_
      refine lv_dup hx hb dX1_passSlot_38 rfl ?_
      refine va_get (D := E.1) (ci := 1) (v := .int (f_1 1)) (C := RX1) (T := TX1) (N := 7) hx hb hts hiX1 hown hK hP 0 rfl rfl 1 (by decide) hf15 (fun _ h9 => h9) rfl dX1_passSlot_39 ?_
      refine lv_iconst (v := 1) hx hb dX1_passSlot_42 (by decide) ?_
      refine lv_isub hx hb dX1_passSlot_43 ?_
      refine va_put (D := E.1) (ci := 1) (v := .int ((f_1 1) - 1)) (ty := .int) (C := RX1) (T := TX1) (N := 7) hx hb hts hiX1 tyX1 tyX1_ok nmX1 hown hK hP hD hS 0 rfl rfl 1 (by decide) hf15 (fun _ h9 => h9) rfl (by decide +kernel) rfl rfl (Nat.le_of_ble_eq_true rfl) dX1_passSlot_44 (fun H locs hP hD hS => ?_)
      have hP : va_P E.1 vwCl (wF b (upd f_1 1 ((f_1 1) - 1))) H := hP
      have hD : va_D _ (wF b (upd f_1 1 ((f_1 1) - 1))) := hD
      refine lv_aload_n hx hb dX1_passSlot_47 rfl (lv_at hl 0 rfl) ?_
      refine lv_dup hx hb dX1_passSlot_48 rfl ?_
      refine va_get (D := E.1) (ci := 1) (v := .int (f_1 3)) (C := RX1) (T := TX1) (N := 7) hx hb hts hiX1 hown hK hP 0 rfl rfl 3 (by decide) hf21 (fun _ h9 => h9) rfl dX1_passSlot_49 ?_
      refine lv_iconst (v := 1) hx hb dX1_passSlot_52 (by decide) ?_
      refine lv_iadd hx hb dX1_passSlot_53 ?_
      refine va_put (D := E.1) (ci := 1) (v := .int ((f_1 3) + 1)) (ty := .int) (C := RX1) (T := TX1) (N := 7) hx hb hts hiX1 tyX1 tyX1_ok nmX1 hown hK hP hD hS 0 rfl rfl 3 (by decide) hf21 (fun _ h9 => h9) rfl (by decide +kernel) rfl rfl (Nat.le_of_ble_eq_true rfl) dX1_passSlot_54 (fun H locs hP hD hS => ?_)
      have hP : va_P E.1 vwCl (wF b (upd (upd f_1 1 ((f_1 1) - 1)) 3 ((f_1 3) + 1))) H := hP
      have hD : va_D _ (wF b (upd (upd f_1 1 ((f_1 1) - 1)) 3 ((f_1 3) + 1))) := hD
      refine lv_aload_n hx hb dX1_passSlot_57 rfl (lv_at hl 0 rfl) ?_
      refine lv_dup hx hb dX1_passSlot_58 rfl ?_
      refine va_get (D := E.1) (ci := 1) (v := .int (f_1 0)) (C := RX1) (T := TX1) (N := 7) hx hb hts hiX1 hown hK hP 0 rfl rfl 0 (by decide) hf9 (fun _ h9 => h9) rfl dX1_passSlot_59 ?_
      refine lv_iload_n hx hb dX1_passSlot_62 rfl (lv_at hl 2 rfl) ?_
      refine lv_iadd hx hb dX1_passSlot_63 ?_
      refine va_put (D := E.1) (ci := 1) (v := .int ((f_1 0) + v2)) (ty := .int) (C := RX1) (T := TX1) (N := 7) hx hb hts hiX1 tyX1 tyX1_ok nmX1 hown hK hP hD hS 0 rfl rfl 0 (by decide) hf9 (fun _ h9 => h9) rfl (by decide +kernel) rfl rfl (Nat.le_of_ble_eq_true rfl) dX1_passSlot_64 (fun H locs hP hD hS => ?_)
      have hP : va_P E.1 vwCl (wF b (upd (upd (upd f_1 1 ((f_1 1) - 1)) 3 ((f_1 3) + 1)) 0 ((f_1 0) + v2))) H := hP
      have hD : va_D _ (wF b (upd (upd (upd f_1 1 ((f_1 1) - 1)) 3 ((f_1 3) + 1)) 0 ((f_1 0) + v2))) := hD
      refine lv_goto (tgt := 80) hx hb dX1_passSlot_67 (by decide) ?_
      exact J_34 H locs ls (by rw [ef_2]; simp only [if_neg c_34]; exact hP) (by rw [ef_2]; simp only [if_neg c_34]; exact hD) hS (lv_sub hl [0, 1, 2, 3] rfl)
  refine lv_if_le (tgt := 30) hx hb dX1_passSlot_4 (by decide) (fun c_4 => ?_) (fun c_4 => ?_)
  · exact J_4 s.heap [] ls (by rw [ef_1]; simp only [if_pos c_4]; exact hP) (by rw [ef_1]; simp only [if_pos c_4]; exact hD) hS (lv_sub hl [0, 1, 2, 3] rfl)
  · refine lv_aload_n hx hb dX1_passSlot_7 rfl (lv_at hl 0 rfl) ?_
    refine va_get (D := E.1) (ci := 1) (v := .int (f 0)) (C := RX1) (T := TX1) (N := 7) hx hb hts hiX1 hown hK hP 0 rfl rfl 0 (by decide) hf9 (fun _ h9 => h9) rfl dX1_passSlot_8 ?_
    refine lv_iload_n hx hb dX1_passSlot_11 rfl (lv_at hl 1 rfl) ?_
    refine lv_icmp_lt (tgt := 30) hx hb dX1_passSlot_12 (by decide) (fun c_12 => ?_) (fun c_12 => ?_)
    · exact J_4 s.heap [] ls (by rw [ef_1]; simp only [if_neg c_4, if_pos c_12]; exact hP) (by rw [ef_1]; simp only [if_neg c_4, if_pos c_12]; exact hD) hS (lv_sub hl [0, 1, 2, 3] rfl)
    · refine lv_aload_n hx hb dX1_passSlot_15 rfl (lv_at hl 0 rfl) ?_
      refine lv_iconst (v := 0) hx hb dX1_passSlot_16 (by decide) ?_
      refine va_put (D := E.1) (ci := 1) (v := .int 0) (ty := .int) (C := RX1) (T := TX1) (N := 7) hx hb hts hiX1 tyX1 tyX1_ok nmX1 hown hK hP hD hS 0 rfl rfl 1 (by decide) hf15 (fun _ h9 => h9) rfl (by decide +kernel) rfl rfl (Nat.le_of_ble_eq_true rfl) dX1_passSlot_17 (fun H locs hP hD hS => ?_)
      have hP : va_P E.1 vwCl (wF b (upd f 1 0)) H := hP
      have hD : va_D _ (wF b (upd f 1 0)) := hD
      refine lv_aload_n hx hb dX1_passSlot_20 rfl (lv_at hl 0 rfl) ?_
      refine lv_dup hx hb dX1_passSlot_21 rfl ?_
      refine va_get (D := E.1) (ci := 1) (v := .int (f 4)) (C := RX1) (T := TX1) (N := 7) hx hb hts hiX1 hown hK hP 0 rfl rfl 4 (by decide) hf24 (fun _ h9 => h9) rfl dX1_passSlot_22 ?_
      refine lv_iconst (v := 1) hx hb dX1_passSlot_25 (by decide) ?_
      refine lv_iadd hx hb dX1_passSlot_26 ?_
      refine va_put (D := E.1) (ci := 1) (v := .int ((f 4) + 1)) (ty := .int) (C := RX1) (T := TX1) (N := 7) hx hb hts hiX1 tyX1 tyX1_ok nmX1 hown hK hP hD hS 0 rfl rfl 4 (by decide) hf24 (fun _ h9 => h9) rfl (by decide +kernel) rfl rfl (Nat.le_of_ble_eq_true rfl) dX1_passSlot_27 (fun H locs hP hD hS => ?_)
      have hP : va_P E.1 vwCl (wF b (upd (upd f 1 0) 4 ((f 4) + 1))) H := hP
      have hD : va_D _ (wF b (upd (upd f 1 0) 4 ((f 4) + 1))) := hD
      exact J_4 H locs ls (by rw [ef_1]; simp only [if_neg c_4, if_neg c_12]; exact hP) (by rw [ef_1]; simp only [if_neg c_4, if_neg c_12]; exact hD) hS (lv_sub hl [0, 1, 2, 3] rfl)

set_option maxHeartbeats 4000000 in
set_option maxRecDepth 100000 in
theorem c_X1_property (l : Launch) (E : EE) (b : Nat) (f : Nat → Int32) (k0 : Nat) (hk : k0 < 7) : GM l yX1_property wsX1_property 0 0 E (wF b f) [.ref b, .int (nI k0)] (wF b f) (some (.int (f k0))) := by
  intro sz
  refine Met.ofW (cc := cX1_property) (maxL := 2) (ret := (some .int)) (by decide) rfl ?_
  intro p e s m args below meth c s₁ B hml hv
  obtain ⟨rfl, rfl, hP, hK, hD0, hN⟩ := hv
  have hx := B.exec
  have hb := B.bytes
  have hr := B.returns
  have hts := atoms_spec (ws := wsX1_property) B.pre
  have hown : s.vm.findClass RX1 = some m.cls := findClass_of_methodNamed B.named
  have hlocks := B.notSynchronized
  have hD := hD0.self (sz := s.heap.size)
  have hA : ∀ q : Nat, s.heap.size ≤ q → va_A (wF b f) s.heap.size q := fun q h => Or.inr h
  have hS : va_S (va_A (wF b f) s.heap.size) s.heap s.heap [] := va_S.rf
  have hl := lv_entry ([.ref b, .int (nI k0)]) (n := 2) (Nat.le_of_ble_eq_true rfl)
  rw [lg_entry_eq]
  generalize (lg_sl ([.ref b, .int (nI k0)]) ++ List.replicate (2 - (lg_sl ([.ref b, .int (nI k0)])).length) Slot.unset).toArray = ls at hl ⊢
  have hl : lv_has ls 2 [(0, .ref b), (1, .int (nI k0))] := hl
  have hf15 := hts (.fieldLink RX1 15 "PhaseConverter$Phase" "onTime" "I") (List.mem_of_getElem? (i := 2) rfl)
  have hf18 := hts (.fieldLink RX1 18 "PhaseConverter$Phase" "rest" "I") (List.mem_of_getElem? (i := 3) rfl)
  have hf21 := hts (.fieldLink RX1 21 "PhaseConverter$Phase" "onSlots" "I") (List.mem_of_getElem? (i := 4) rfl)
  have hf24 := hts (.fieldLink RX1 24 "PhaseConverter$Phase" "limitEvents" "I") (List.mem_of_getElem? (i := 5) rfl)
  have hf27 := hts (.fieldLink RX1 27 "PhaseConverter$Phase" "skipped" "I") (List.mem_of_getElem? (i := 6) rfl)
  have hf30 := hts (.fieldLink RX1 30 "PhaseConverter$Phase" "pulses" "I") (List.mem_of_getElem? (i := 7) rfl)
  have hf9 := hts (.fieldLink RX1 9 "PhaseConverter$Phase" "current" "I") (List.mem_of_getElem? (i := 1) rfl)
  have hiX1 : ∀ w ∈ u_ws RX1 TX1 7, w ∈ wsX1_property := memIn [8, 9, 10, 11, 12, 13, 14] rfl
  refine lv_iload_n hx hb dX1_property_0 rfl (lv_at hl 1 rfl) ?_
  obtain rfl | rfl | rfl | rfl | rfl | rfl | rfl : k0 = 0 ∨ k0 = 1 ∨ k0 = 2 ∨ k0 = 3 ∨ k0 = 4 ∨ k0 = 5 ∨ k0 = 6 := by omega
  · refine lv_tableIn (off := 39) (tgt := 40) hx hb dX1_property_1 (by decide) (by decide) (by decide) (by decide) ?_
    refine lv_aload_n hx hb dX1_property_40 rfl (lv_at hl 0 rfl) ?_
    refine va_get (D := E.1) (ci := 1) (v := .int (f 0)) (C := RX1) (T := TX1) (N := 7) hx hb hts hiX1 hown hK hP 0 rfl rfl 0 (by decide) hf9 (fun _ h9 => h9) rfl dX1_property_41 ?_
    exact greti hx hb hr hlocks hP hD hS (rfl) (rfl) dX1_property_44
  · refine lv_tableIn (off := 44) (tgt := 45) hx hb dX1_property_1 (by decide) (by decide) (by decide) (by decide) ?_
    refine lv_aload_n hx hb dX1_property_45 rfl (lv_at hl 0 rfl) ?_
    refine va_get (D := E.1) (ci := 1) (v := .int (f 1)) (C := RX1) (T := TX1) (N := 7) hx hb hts hiX1 hown hK hP 0 rfl rfl 1 (by decide) hf15 (fun _ h9 => h9) rfl dX1_property_46 ?_
    exact greti hx hb hr hlocks hP hD hS (rfl) (rfl) dX1_property_49
  · refine lv_tableIn (off := 49) (tgt := 50) hx hb dX1_property_1 (by decide) (by decide) (by decide) (by decide) ?_
    refine lv_aload_n hx hb dX1_property_50 rfl (lv_at hl 0 rfl) ?_
    refine va_get (D := E.1) (ci := 1) (v := .int (f 2)) (C := RX1) (T := TX1) (N := 7) hx hb hts hiX1 hown hK hP 0 rfl rfl 2 (by decide) hf18 (fun _ h9 => h9) rfl dX1_property_51 ?_
    exact greti hx hb hr hlocks hP hD hS (rfl) (rfl) dX1_property_54
  · refine lv_tableIn (off := 54) (tgt := 55) hx hb dX1_property_1 (by decide) (by decide) (by decide) (by decide) ?_
    refine lv_aload_n hx hb dX1_property_55 rfl (lv_at hl 0 rfl) ?_
    refine va_get (D := E.1) (ci := 1) (v := .int (f 3)) (C := RX1) (T := TX1) (N := 7) hx hb hts hiX1 hown hK hP 0 rfl rfl 3 (by decide) hf21 (fun _ h9 => h9) rfl dX1_property_56 ?_
    exact greti hx hb hr hlocks hP hD hS (rfl) (rfl) dX1_property_59
  · refine lv_tableIn (off := 59) (tgt := 60) hx hb dX1_property_1 (by decide) (by decide) (by decide) (by decide) ?_
    refine lv_aload_n hx hb dX1_property_60 rfl (lv_at hl 0 rfl) ?_
    refine va_get (D := E.1) (ci := 1) (v := .int (f 4)) (C := RX1) (T := TX1) (N := 7) hx hb hts hiX1 hown hK hP 0 rfl rfl 4 (by decide) hf24 (fun _ h9 => h9) rfl dX1_property_61 ?_
    exact greti hx hb hr hlocks hP hD hS (rfl) (rfl) dX1_property_64
  · refine lv_tableIn (off := 64) (tgt := 65) hx hb dX1_property_1 (by decide) (by decide) (by decide) (by decide) ?_
    refine lv_aload_n hx hb dX1_property_65 rfl (lv_at hl 0 rfl) ?_
    refine va_get (D := E.1) (ci := 1) (v := .int (f 5)) (C := RX1) (T := TX1) (N := 7) hx hb hts hiX1 hown hK hP 0 rfl rfl 5 (by decide) hf27 (fun _ h9 => h9) rfl dX1_property_66 ?_
    exact greti hx hb hr hlocks hP hD hS (rfl) (rfl) dX1_property_69
  · refine lv_tableOut (tgt := 70) hx hb dX1_property_1 (by decide) (by decide) ?_
    refine lv_aload_n hx hb dX1_property_70 rfl (lv_at hl 0 rfl) ?_
    refine va_get (D := E.1) (ci := 1) (v := .int (f 6)) (C := RX1) (T := TX1) (N := 7) hx hb hts hiX1 hown hK hP 0 rfl rfl 6 (by decide) hf30 (fun _ h9 => h9) rfl dX1_property_71 ?_
    exact greti hx hb hr hlocks hP hD hS (rfl) (rfl) dX1_property_74

set_option maxHeartbeats 4000000 in
set_option maxRecDepth 100000 in
theorem c_X4_clamp (l : Launch) (E : EE) (v lo hi : Int32) : GM l yX4_clamp wsX4_clamp 0 0 E ([]) [.int v, .int lo, .int hi] ([]) (some (.int (clampI v lo hi))) := by
  intro sz
  refine Met.ofW (cc := cX4_clamp) (maxL := 3) (ret := (some .int)) (by decide) rfl ?_
  intro p e s m args below meth c s₁ B hml hv
  obtain ⟨rfl, rfl, hP, hK, hD0, hN⟩ := hv
  have hx := B.exec
  have hb := B.bytes
  have hr := B.returns
  have hts := atoms_spec (ws := wsX4_clamp) B.pre
  have hown : s.vm.findClass RX4 = some m.cls := findClass_of_methodNamed B.named
  have hlocks := B.notSynchronized
  have hD := hD0.self (sz := s.heap.size)
  have hA : ∀ q : Nat, s.heap.size ≤ q → va_A ([]) s.heap.size q := fun q h => Or.inr h
  have hS : va_S (va_A ([]) s.heap.size) s.heap s.heap [] := va_S.rf
  have hl := lv_entry ([.int v, .int lo, .int hi]) (n := 3) (Nat.le_of_ble_eq_true rfl)
  rw [lg_entry_eq]
  generalize (lg_sl ([.int v, .int lo, .int hi]) ++ List.replicate (3 - (lg_sl ([.int v, .int lo, .int hi])).length) Slot.unset).toArray = ls at hl ⊢
  have hl : lv_has ls 3 [(0, .int v), (1, .int lo), (2, .int hi)] := hl
  refine lv_iload_n hx hb dX4_clamp_0 rfl (lv_at hl 0 rfl) ?_
  refine lv_iload_n hx hb dX4_clamp_1 rfl (lv_at hl 1 rfl) ?_
  refine lv_icmp_ge (tgt := 9) hx hb dX4_clamp_2 (by decide) (fun c_2 => ?_) (fun c_2 => ?_)
  · refine lv_iload_n hx hb dX4_clamp_9 rfl (lv_at hl 0 rfl) ?_
    refine lv_iload_n hx hb dX4_clamp_10 rfl (lv_at hl 2 rfl) ?_
    refine lv_icmp_le (tgt := 18) hx hb dX4_clamp_11 (by decide) (fun c_11 => ?_) (fun c_11 => ?_)
    · refine lv_iload_n hx hb dX4_clamp_18 rfl (lv_at hl 0 rfl) ?_
      exact greti hx hb hr hlocks hP hD hS (by simp only [clampI, if_pos c_2, if_pos c_11]) (rfl) dX4_clamp_19
    · refine lv_iload_n hx hb dX4_clamp_14 rfl (lv_at hl 2 rfl) ?_
      refine lv_goto (tgt := 19) hx hb dX4_clamp_15 (by decide) ?_
      exact greti hx hb hr hlocks hP hD hS (by simp only [clampI, if_pos c_2, if_neg c_11]) (rfl) dX4_clamp_19
  · refine lv_iload_n hx hb dX4_clamp_5 rfl (lv_at hl 1 rfl) ?_
    refine lv_goto (tgt := 19) hx hb dX4_clamp_6 (by decide) ?_
    exact greti hx hb hr hlocks hP hD hS (by simp only [clampI, if_neg c_2]) (rfl) dX4_clamp_19

set_option maxHeartbeats 4000000 in
set_option maxRecDepth 100000 in
theorem c_X4_quotient (l : Launch) (E : EE) (v w : Int32) (hw : ¬ w = 0) : GM l yX4_quotient wsX4_quotient 0 0 E ([]) [.int v, .int w] ([]) (some (.int (v / w))) := by
  intro sz
  refine Met.ofW (cc := cX4_quotient) (maxL := 2) (ret := (some .int)) (by decide) rfl ?_
  intro p e s m args below meth c s₁ B hml hv
  obtain ⟨rfl, rfl, hP, hK, hD0, hN⟩ := hv
  have hx := B.exec
  have hb := B.bytes
  have hr := B.returns
  have hts := atoms_spec (ws := wsX4_quotient) B.pre
  have hown : s.vm.findClass RX4 = some m.cls := findClass_of_methodNamed B.named
  have hlocks := B.notSynchronized
  have hD := hD0.self (sz := s.heap.size)
  have hA : ∀ q : Nat, s.heap.size ≤ q → va_A ([]) s.heap.size q := fun q h => Or.inr h
  have hS : va_S (va_A ([]) s.heap.size) s.heap s.heap [] := va_S.rf
  have hl := lv_entry ([.int v, .int w]) (n := 2) (Nat.le_of_ble_eq_true rfl)
  rw [lg_entry_eq]
  generalize (lg_sl ([.int v, .int w]) ++ List.replicate (2 - (lg_sl ([.int v, .int w])).length) Slot.unset).toArray = ls at hl ⊢
  have hl : lv_has ls 2 [(0, .int v), (1, .int w)] := hl
  refine lv_iload_n hx hb dX4_quotient_0 rfl (lv_at hl 1 rfl) ?_
  refine lv_if_ne (tgt := 8) hx hb dX4_quotient_1 (by decide) (fun c_1 => ?_) (fun c_1 => absurd c_1 hw)
  refine lv_iload_n hx hb dX4_quotient_8 rfl (lv_at hl 0 rfl) ?_
  refine lv_iload_n hx hb dX4_quotient_9 rfl (lv_at hl 1 rfl) ?_
  refine lv_idiv hx hb dX4_quotient_10 hw ?_
  exact greti hx hb hr hlocks hP hD hS (rfl) (rfl) dX4_quotient_11
