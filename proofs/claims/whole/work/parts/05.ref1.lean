set_option maxHeartbeats 4000000 in
set_option maxRecDepth 100000 in
theorem c_X5_within (l : Launch) (E : EE) (v lo hi : Int32) : GM l yX5_within wsX5_within 0 0 E ([]) [.int v, .int lo, .int hi] ([]) (some (.int (inRg v lo hi))) := by
  intro sz
  refine Met.ofW (cc := cX5_within) (maxL := 3) (ret := (some .boolean)) (by decide) rfl ?_
  intro p e s m args below meth c s₁ B hml hv
  obtain ⟨rfl, rfl, hP, hK, hD0, hN⟩ := hv
  have hx := B.exec
  have hb := B.bytes
  have hr := B.returns
  have hts := atoms_spec (ws := wsX5_within) B.pre
  have hown : s.vm.findClass RX5 = some m.cls := findClass_of_methodNamed B.named
  have hlocks := B.notSynchronized
  have hD := hD0.self (sz := s.heap.size)
  have hA : ∀ q : Nat, s.heap.size ≤ q → va_A ([]) s.heap.size q := fun q h => Or.inr h
  have hS : va_S (va_A ([]) s.heap.size) s.heap s.heap [] := va_S.rf
  have hl := lv_entry ([.int v, .int lo, .int hi]) (n := 3) (Nat.le_of_ble_eq_true rfl)
  rw [lg_entry_eq]
  generalize (lg_sl ([.int v, .int lo, .int hi]) ++ List.replicate (3 - (lg_sl ([.int v, .int lo, .int hi])).length) Slot.unset).toArray = ls at hl ⊢
  have hl : lv_has ls 3 [(0, .int v), (1, .int lo), (2, .int hi)] := hl
  refine lv_iload_n hx hb dX5_within_0 rfl (lv_at hl 0 rfl) ?_
  refine lv_iload_n hx hb dX5_within_1 rfl (lv_at hl 1 rfl) ?_
  refine lv_icmp_lt (tgt := 14) hx hb dX5_within_2 (by decide) (fun c_2 => ?_) (fun c_2 => ?_)
  · refine lv_iconst (v := 0) hx hb dX5_within_14 (by decide) ?_
    exact gretz hx hb hr hlocks hP hD hS (by first | exact Or.inl rfl | exact Or.inr rfl) (by simp only [inRg, if_pos c_2]) (rfl) dX5_within_15
  · refine lv_iload_n hx hb dX5_within_5 rfl (lv_at hl 0 rfl) ?_
    refine lv_iload_n hx hb dX5_within_6 rfl (lv_at hl 2 rfl) ?_
    refine lv_icmp_gt (tgt := 14) hx hb dX5_within_7 (by decide) (fun c_7 => ?_) (fun c_7 => ?_)
    · refine lv_iconst (v := 0) hx hb dX5_within_14 (by decide) ?_
      exact gretz hx hb hr hlocks hP hD hS (by first | exact Or.inl rfl | exact Or.inr rfl) (by simp only [inRg, if_neg c_2, if_pos c_7]) (rfl) dX5_within_15
    · refine lv_iconst (v := 1) hx hb dX5_within_10 (by decide) ?_
      refine lv_goto (tgt := 15) hx hb dX5_within_11 (by decide) ?_
      exact gretz hx hb hr hlocks hP hD hS (by first | exact Or.inl rfl | exact Or.inr rfl) (by simp only [inRg, if_neg c_2, if_neg c_7]) (rfl) dX5_within_15

set_option maxHeartbeats 4000000 in
set_option maxRecDepth 100000 in
theorem c_X5_clamped (l : Launch) (E : EE) (v lo hi : Int32) : GM l yX5_clamped wsX5_clamped 0 0 E ([]) [.int v, .int lo, .int hi] ([]) (some (.int (clampI v lo hi))) := by
  intro sz
  refine Met.ofW (cc := cX5_clamped) (maxL := 3) (ret := (some .int)) (by decide) rfl ?_
  intro p e s m args below meth c s₁ B hml hv
  obtain ⟨rfl, rfl, hP, hK, hD0, hN⟩ := hv
  have hx := B.exec
  have hb := B.bytes
  have hr := B.returns
  have hts := atoms_spec (ws := wsX5_clamped) B.pre
  have hown : s.vm.findClass RX5 = some m.cls := findClass_of_methodNamed B.named
  have hlocks := B.notSynchronized
  have hD := hD0.self (sz := s.heap.size)
  have hA : ∀ q : Nat, s.heap.size ≤ q → va_A ([]) s.heap.size q := fun q h => Or.inr h
  have hS : va_S (va_A ([]) s.heap.size) s.heap s.heap [] := va_S.rf
  have hl := lv_entry ([.int v, .int lo, .int hi]) (n := 3) (Nat.le_of_ble_eq_true rfl)
  rw [lg_entry_eq]
  generalize (lg_sl ([.int v, .int lo, .int hi]) ++ List.replicate (3 - (lg_sl ([.int v, .int lo, .int hi])).length) Slot.unset).toArray = ls at hl ⊢
  have hl : lv_has ls 3 [(0, .int v), (1, .int lo), (2, .int hi)] := hl
  refine lv_iload_n hx hb dX5_clamped_0 rfl (lv_at hl 0 rfl) ?_
  refine lv_iload_n hx hb dX5_clamped_1 rfl (lv_at hl 1 rfl) ?_
  refine lv_icmp_ge (tgt := 9) hx hb dX5_clamped_2 (by decide) (fun c_2 => ?_) (fun c_2 => ?_)
  · refine lv_iload_n hx hb dX5_clamped_9 rfl (lv_at hl 0 rfl) ?_
    refine lv_iload_n hx hb dX5_clamped_10 rfl (lv_at hl 2 rfl) ?_
    refine lv_icmp_le (tgt := 18) hx hb dX5_clamped_11 (by decide) (fun c_11 => ?_) (fun c_11 => ?_)
    · refine lv_iload_n hx hb dX5_clamped_18 rfl (lv_at hl 0 rfl) ?_
      exact greti hx hb hr hlocks hP hD hS (by simp only [clampI, if_pos c_2, if_pos c_11]) (rfl) dX5_clamped_19
    · refine lv_iload_n hx hb dX5_clamped_14 rfl (lv_at hl 2 rfl) ?_
      refine lv_goto (tgt := 19) hx hb dX5_clamped_15 (by decide) ?_
      exact greti hx hb hr hlocks hP hD hS (by simp only [clampI, if_pos c_2, if_neg c_11]) (rfl) dX5_clamped_19
  · refine lv_iload_n hx hb dX5_clamped_5 rfl (lv_at hl 1 rfl) ?_
    refine lv_goto (tgt := 19) hx hb dX5_clamped_6 (by decide) ?_
    exact greti hx hb hr hlocks hP hD hS (by simp only [clampI, if_neg c_2]) (rfl) dX5_clamped_19

set_option maxHeartbeats 4000000 in
set_option maxRecDepth 100000 in
theorem c_X5_at (l : Launch) (E : EE) (k0 k1 : Nat) : GM l yX5_at wsX5_at 0 0 E ([]) [.int (nI k0), .int (nI k1)] ([]) (some (.int (nI (35 + 7 * k0 + k1)))) := by
  intro sz
  refine Met.ofW (cc := cX5_at) (maxL := 2) (ret := (some .int)) (by decide) rfl ?_
  intro p e s m args below meth c s₁ B hml hv
  obtain ⟨rfl, rfl, hP, hK, hD0, hN⟩ := hv
  have hx := B.exec
  have hb := B.bytes
  have hr := B.returns
  have hts := atoms_spec (ws := wsX5_at) B.pre
  have hown : s.vm.findClass RX5 = some m.cls := findClass_of_methodNamed B.named
  have hlocks := B.notSynchronized
  have hD := hD0.self (sz := s.heap.size)
  have hA : ∀ q : Nat, s.heap.size ≤ q → va_A ([]) s.heap.size q := fun q h => Or.inr h
  have hS : va_S (va_A ([]) s.heap.size) s.heap s.heap [] := va_S.rf
  have hl := lv_entry ([.int (nI k0), .int (nI k1)]) (n := 2) (Nat.le_of_ble_eq_true rfl)
  rw [lg_entry_eq]
  generalize (lg_sl ([.int (nI k0), .int (nI k1)]) ++ List.replicate (2 - (lg_sl ([.int (nI k0), .int (nI k1)])).length) Slot.unset).toArray = ls at hl ⊢
  have hl : lv_has ls 2 [(0, .int (nI k0)), (1, .int (nI k1))] := hl
  refine lv_bipush (v := 35) hx hb dX5_at_0 (by decide) ?_
  refine lv_bipush (v := 7) hx hb dX5_at_2 (by decide) ?_
  refine lv_iload_n hx hb dX5_at_4 rfl (lv_at hl 0 rfl) ?_
  refine lv_imul hx hb dX5_at_5 ?_
  refine lv_iadd hx hb dX5_at_6 ?_
  refine lv_iload_n hx hb dX5_at_7 rfl (lv_at hl 1 rfl) ?_
  refine lv_iadd hx hb dX5_at_8 ?_
  exact greti hx hb hr hlocks hP hD hS (by rw [show (35 : Int32) = nI 35 from rfl, show (7 : Int32) = nI 7 from rfl, pk_mul, nI_add, nI_add]) (rfl) dX5_at_9

set_option maxHeartbeats 4000000 in
set_option maxRecDepth 100000 in
theorem c_X5_isSetting (l : Launch) (E : EE) (v : Int32) : GM l yX5_isSetting wsX5_isSetting 1 22 E ([]) [.int v] ([]) (some (.int (inRg v 0 14))) := by
  intro sz
  refine Met.ofW (cc := cX5_isSetting) (maxL := 1) (ret := (some .boolean)) (by decide) rfl ?_
  intro p e s m args below meth c s₁ B hml hv
  obtain ⟨rfl, rfl, hP, hK, hD0, hN⟩ := hv
  have hx := B.exec
  have hb := B.bytes
  have hr := B.returns
  have hts := atoms_spec (ws := wsX5_isSetting) B.pre
  have hown : s.vm.findClass RX5 = some m.cls := findClass_of_methodNamed B.named
  have hlocks := B.notSynchronized
  have hD := hD0.self (sz := s.heap.size)
  have hA : ∀ q : Nat, s.heap.size ≤ q → va_A ([]) s.heap.size q := fun q h => Or.inr h
  have hS : va_S (va_A ([]) s.heap.size) s.heap s.heap [] := va_S.rf
  have hl := lv_entry ([.int v]) (n := 1) (Nat.le_of_ble_eq_true rfl)
  rw [lg_entry_eq]
  generalize (lg_sl ([.int v]) ++ List.replicate (1 - (lg_sl ([.int v])).length) Slot.unset).toArray = ls at hl ⊢
  have hl : lv_has ls 1 [(0, .int v)] := hl
  refine lv_iload_n hx hb dX5_isSetting_0 rfl (lv_at hl 0 rfl) ?_
  refine lv_iconst (v := 0) hx hb dX5_isSetting_1 (by decide) ?_
  refine lv_bipush (v := 14) hx hb dX5_isSetting_2 (by decide) ?_
  refine gsPi (As := [.int v, .int 0, .int 14]) (rest := []) ⟨hx, hb, hml, hown, hts⟩ (c_X5_within l E v 0 14) (va_cwS 3 hts gX5_isSetting_X5_within rfl rfl rfl (by decide +kernel) ⟨Nat.le_of_ble_eq_true rfl, Nat.le_of_ble_eq_true rfl⟩) hP hK hD hN hS hA rfl hl.1 rfl (Nat.le_of_ble_eq_true rfl) dX5_isSetting_4 ⟨Nat.le_refl _, Nat.le_refl _⟩ (fun H locs hP hD hS => ?_)
  exact gretz hx hb hr hlocks hP hD hS (inRg_01 _ _ _) (rfl) (rfl) dX5_isSetting_7

set_option maxHeartbeats 4000000 in
set_option maxRecDepth 100000 in
theorem c_X5_runs (l : Launch) (E : EE) (A : Nat → Nat) (G z a t r : Nat → Int32) (h : Int64) : GM l yX5_runs wsX5_runs 0 0 E (wM E A G z a t r h) [.ref (A 0)] (wM E A G z a t r h) (some (.int (runsI z))) := by
  intro sz
  refine Met.ofW (cc := cX5_runs) (maxL := 1) (ret := (some .boolean)) (by decide) rfl ?_
  intro p e s m args below meth c s₁ B hml hv
  obtain ⟨rfl, rfl, hP, hK, hD0, hN⟩ := hv
  have hx := B.exec
  have hb := B.bytes
  have hr := B.returns
  have hts := atoms_spec (ws := wsX5_runs) B.pre
  have hown : s.vm.findClass RX5 = some m.cls := findClass_of_methodNamed B.named
  have hlocks := B.notSynchronized
  have hD := hD0.self (sz := s.heap.size)
  have hA : ∀ q : Nat, s.heap.size ≤ q → va_A (wM E A G z a t r h) s.heap.size q := fun q h => Or.inr h
  have hS : va_S (va_A (wM E A G z a t r h) s.heap.size) s.heap s.heap [] := va_S.rf
  have hl := lv_entry ([.ref (A 0)]) (n := 1) (Nat.le_of_ble_eq_true rfl)
  rw [lg_entry_eq]
  generalize (lg_sl ([.ref (A 0)]) ++ List.replicate (1 - (lg_sl ([.ref (A 0)])).length) Slot.unset).toArray = ls at hl ⊢
  have hl : lv_has ls 1 [(0, .ref (A 0))] := hl
  have hf7 := hts (.fieldLink RX5 7 "PhaseConverterModel" "z" "[I") (List.mem_of_getElem? (i := 1) rfl)
  have hiX5 : ∀ w ∈ u_ws RX5 TX5 15, w ∈ wsX5_runs := memIn [2, 3, 4, 5, 6, 7, 8, 9, 10, 11, 12, 13, 14, 15, 16] rfl
  refine lv_aload_n hx hb dX5_runs_0 rfl (lv_at hl 0 rfl) ?_
  refine va_get (D := E.1) (ci := 5) (v := .ref (A 1)) (C := RX5) (T := TX5) (N := 15) hx hb hts hiX5 hown hK hP 0 rfl rfl 1 (by decide) hf7 (fun _ h9 => h9) rfl dX5_runs_1 ?_
  refine lv_bipush (v := 20) hx hb dX5_runs_4 (by decide) ?_
  refine gald (x := z 20) hx hb hK hP 1 rfl 20 (rfl) (by decide) (by decide) rfl dX5_runs_6 ?_
  refine lv_iconst (v := 1) hx hb dX5_runs_7 (by decide) ?_
  refine lv_icmp_eq (tgt := 22) hx hb dX5_runs_8 (by decide) (fun c_8 => ?_) (fun c_8 => ?_)
  · refine lv_iconst (v := 1) hx hb dX5_runs_22 (by decide) ?_
    refine lv_goto (tgt := 27) hx hb dX5_runs_23 (by decide) ?_
    exact gretz hx hb hr hlocks hP hD hS (by first | exact Or.inl rfl | exact Or.inr rfl) (by simp only [runsI, if_pos c_8]) (rfl) dX5_runs_27
  · refine lv_aload_n hx hb dX5_runs_11 rfl (lv_at hl 0 rfl) ?_
    refine va_get (D := E.1) (ci := 5) (v := .ref (A 1)) (C := RX5) (T := TX5) (N := 15) hx hb hts hiX5 hown hK hP 0 rfl rfl 1 (by decide) hf7 (fun _ h9 => h9) rfl dX5_runs_12 ?_
    refine lv_bipush (v := 20) hx hb dX5_runs_15 (by decide) ?_
    refine gald (x := z 20) hx hb hK hP 1 rfl 20 (rfl) (by decide) (by decide) rfl dX5_runs_17 ?_
    refine lv_iconst (v := 2) hx hb dX5_runs_18 (by decide) ?_
    refine lv_icmp_ne (tgt := 26) hx hb dX5_runs_19 (by decide) (fun c_19 => ?_) (fun c_19 => ?_)
    · refine lv_iconst (v := 0) hx hb dX5_runs_26 (by decide) ?_
      exact gretz hx hb hr hlocks hP hD hS (by first | exact Or.inl rfl | exact Or.inr rfl) (by simp only [runsI, if_neg c_8, if_neg c_19]) (rfl) dX5_runs_27
    · refine lv_iconst (v := 1) hx hb dX5_runs_22 (by decide) ?_
      refine lv_goto (tgt := 27) hx hb dX5_runs_23 (by decide) ?_
      exact gretz hx hb hr hlocks hP hD hS (by first | exact Or.inl rfl | exact Or.inr rfl) (by simp only [runsI, if_neg c_8, if_pos c_19]) (rfl) dX5_runs_27

set_option maxHeartbeats 4000000 in
set_option maxRecDepth 100000 in
theorem c_X5_thrown (l : Launch) (E : EE) (A : Nat → Nat) (G z a t r : Nat → Int32) (h : Int64) : GM l yX5_thrown wsX5_thrown 0 0 E (wM E A G z a t r h) [.ref (A 0)] (wM E A G z a t r h) (some (.int (G 0))) := by
  intro sz
  refine Met.ofW (cc := cX5_thrown) (maxL := 1) (ret := (some .int)) (by decide) rfl ?_
  intro p e s m args below meth c s₁ B hml hv
  obtain ⟨rfl, rfl, hP, hK, hD0, hN⟩ := hv
  have hx := B.exec
  have hb := B.bytes
  have hr := B.returns
  have hts := atoms_spec (ws := wsX5_thrown) B.pre
  have hown : s.vm.findClass RX5 = some m.cls := findClass_of_methodNamed B.named
  have hlocks := B.notSynchronized
  have hD := hD0.self (sz := s.heap.size)
  have hA : ∀ q : Nat, s.heap.size ≤ q → va_A (wM E A G z a t r h) s.heap.size q := fun q h => Or.inr h
  have hS : va_S (va_A (wM E A G z a t r h) s.heap.size) s.heap s.heap [] := va_S.rf
  have hl := lv_entry ([.ref (A 0)]) (n := 1) (Nat.le_of_ble_eq_true rfl)
  rw [lg_entry_eq]
  generalize (lg_sl ([.ref (A 0)]) ++ List.replicate (1 - (lg_sl ([.ref (A 0)])).length) Slot.unset).toArray = ls at hl ⊢
  have hl : lv_has ls 1 [(0, .ref (A 0))] := hl
  have hf26 := hts (.fieldLink RX5 26 "PhaseConverterModel" "thrown" "I") (List.mem_of_getElem? (i := 1) rfl)
  have hiX5 : ∀ w ∈ u_ws RX5 TX5 15, w ∈ wsX5_thrown := memIn [2, 3, 4, 5, 6, 7, 8, 9, 10, 11, 12, 13, 14, 15, 16] rfl
  refine lv_aload_n hx hb dX5_thrown_0 rfl (lv_at hl 0 rfl) ?_
  refine va_get (D := E.1) (ci := 5) (v := .int (G 0)) (C := RX5) (T := TX5) (N := 15) hx hb hts hiX5 hown hK hP 0 rfl rfl 0 (by decide) hf26 (fun _ h9 => h9) rfl dX5_thrown_1 ?_
  exact greti hx hb hr hlocks hP hD hS (rfl) (rfl) dX5_thrown_4

set_option maxHeartbeats 4000000 in
set_option maxRecDepth 100000 in
theorem c_X5_changePhases (l : Launch) (E : EE) (A : Nat → Nat) (G z a t r : Nat → Int32) (h : Int64) (v0 : Int32) : GM l yX5_changePhases wsX5_changePhases 0 0 E (wM E A G z a t r h) [.ref (A 0), .int v0] (wM E A G (changePh v0 z) a t r h) (none) := by
  intro sz
  refine Met.ofW (cc := cX5_changePhases) (maxL := 2) (ret := none) (by decide) rfl ?_
  intro p e s m args below meth c s₁ B hml hv
  obtain ⟨rfl, rfl, hP, hK, hD0, hN⟩ := hv
  have hx := B.exec
  have hb := B.bytes
  have hr := B.returns
  have hts := atoms_spec (ws := wsX5_changePhases) B.pre
  have hown : s.vm.findClass RX5 = some m.cls := findClass_of_methodNamed B.named
  have hlocks := B.notSynchronized
  have hD := hD0.self (sz := s.heap.size)
  have hA : ∀ q : Nat, s.heap.size ≤ q → va_A (wM E A G z a t r h) s.heap.size q := fun q h => Or.inr h
  have hS : va_S (va_A (wM E A G z a t r h) s.heap.size) s.heap s.heap [] := va_S.rf
  have hl := lv_entry ([.ref (A 0), .int v0]) (n := 2) (Nat.le_of_ble_eq_true rfl)
  rw [lg_entry_eq]
  generalize (lg_sl ([.ref (A 0), .int v0]) ++ List.replicate (2 - (lg_sl ([.ref (A 0), .int v0])).length) Slot.unset).toArray = ls at hl ⊢
  have hl : lv_has ls 2 [(0, .ref (A 0)), (1, .int v0)] := hl
  have hf7 := hts (.fieldLink RX5 7 "PhaseConverterModel" "z" "[I") (List.mem_of_getElem? (i := 1) rfl)
  have hiX5 : ∀ w ∈ u_ws RX5 TX5 15, w ∈ wsX5_changePhases := memIn [2, 3, 4, 5, 6, 7, 8, 9, 10, 11, 12, 13, 14, 15, 16] rfl
  refine lv_aload_n hx hb dX5_changePhases_0 rfl (lv_at hl 0 rfl) ?_
  refine va_get (D := E.1) (ci := 5) (v := .ref (A 1)) (C := RX5) (T := TX5) (N := 15) hx hb hts hiX5 hown hK hP 0 rfl rfl 1 (by decide) hf7 (fun _ h9 => h9) rfl dX5_changePhases_1 ?_
  refine lv_bipush (v := 16) hx hb dX5_changePhases_4 (by decide) ?_
  refine lv_iload_n hx hb dX5_changePhases_6 rfl (lv_at hl 1 rfl) ?_
  refine gast hx hb hK hP hD hS 1 rfl 16 (rfl) (by decide) (by decide) dX5_changePhases_7 (fun H locs hP hD hS => ?_)
  have hP : va_P E.1 vwCl (wM E A G (upd z 16 v0) a t r h) H := hP
  have hD : va_D _ (wM E A G (upd z 16 v0) a t r h) := hD
  refine lv_aload_n hx hb dX5_changePhases_8 rfl (lv_at hl 0 rfl) ?_
  refine va_get (D := E.1) (ci := 5) (v := .ref (A 1)) (C := RX5) (T := TX5) (N := 15) hx hb hts hiX5 hown hK hP 0 rfl rfl 1 (by decide) hf7 (fun _ h9 => h9) rfl dX5_changePhases_9 ?_
  refine lv_bipush (v := 29) hx hb dX5_changePhases_12 (by decide) ?_
  refine lv_iconst (v := 0) hx hb dX5_changePhases_14 (by decide) ?_
  refine gast hx hb hK hP hD hS 1 rfl 29 (rfl) (by decide) (by decide) dX5_changePhases_15 (fun H locs hP hD hS => ?_)
  have hP : va_P E.1 vwCl (wM E A G (upd (upd z 16 v0) 29 0) a t r h) H := hP
  have hD : va_D _ (wM E A G (upd (upd z 16 v0) 29 0) a t r h) := hD
  refine lv_aload_n hx hb dX5_changePhases_16 rfl (lv_at hl 0 rfl) ?_
  refine va_get (D := E.1) (ci := 5) (v := .ref (A 1)) (C := RX5) (T := TX5) (N := 15) hx hb hts hiX5 hown hK hP 0 rfl rfl 1 (by decide) hf7 (fun _ h9 => h9) rfl dX5_changePhases_17 ?_
  refine lv_bipush (v := 30) hx hb dX5_changePhases_20 (by decide) ?_
  refine lv_iconst (v := 0) hx hb dX5_changePhases_22 (by decide) ?_
  refine gast hx hb hK hP hD hS 1 rfl 30 (rfl) (by decide) (by decide) dX5_changePhases_23 (fun H locs hP hD hS => ?_)
  have hP : va_P E.1 vwCl (wM E A G (upd (upd (upd z 16 v0) 29 0) 30 0) a t r h) H := hP
  have hD : va_D _ (wM E A G (upd (upd (upd z 16 v0) 29 0) 30 0) a t r h) := hD
  refine lv_aload_n hx hb dX5_changePhases_24 rfl (lv_at hl 0 rfl) ?_
  refine va_get (D := E.1) (ci := 5) (v := .ref (A 1)) (C := RX5) (T := TX5) (N := 15) hx hb hts hiX5 hown hK hP 0 rfl rfl 1 (by decide) hf7 (fun _ h9 => h9) rfl dX5_changePhases_25 ?_
  refine lv_bipush (v := 28) hx hb dX5_changePhases_28 (by decide) ?_
  refine lv_dup2_11 hx hb dX5_changePhases_30 rfl rfl ?_
  refine gald (x := z 28) hx hb hK hP 1 rfl 28 (rfl) (by decide) (by decide) rfl dX5_changePhases_31 ?_
  refine lv_iconst (v := 1) hx hb dX5_changePhases_32 (by decide) ?_
  refine lv_iadd hx hb dX5_changePhases_33 ?_
  refine gast hx hb hK hP hD hS 1 rfl 28 (rfl) (by decide) (by decide) dX5_changePhases_34 (fun H locs hP hD hS => ?_)
  have hP : va_P E.1 vwCl (wM E A G (upd (upd (upd (upd z 16 v0) 29 0) 30 0) 28 ((z 28) + 1)) a t r h) H := hP
  have hD : va_D _ (wM E A G (upd (upd (upd (upd z 16 v0) 29 0) 30 0) 28 ((z 28) + 1)) a t r h) := hD
  exact gretv hx hb hr hlocks hP hD hS (rfl) dX5_changePhases_35

set_option maxHeartbeats 4000000 in
set_option maxRecDepth 100000 in
theorem c_X5_aim (l : Launch) (E : EE) (A : Nat → Nat) (G z a t r : Nat → Int32) (h : Int64) : GM l yX5_aim wsX5_aim 0 0 E (wM E A G z a t r h) [.ref (A 0)] (wM E A G (aim z) a t r h) (none) := by
  intro sz
  refine Met.ofW (cc := cX5_aim) (maxL := 1) (ret := none) (by decide) rfl ?_
  intro p e s m args below meth c s₁ B hml hv
  obtain ⟨rfl, rfl, hP, hK, hD0, hN⟩ := hv
  have hx := B.exec
  have hb := B.bytes
  have hr := B.returns
  have hts := atoms_spec (ws := wsX5_aim) B.pre
  have hown : s.vm.findClass RX5 = some m.cls := findClass_of_methodNamed B.named
  have hlocks := B.notSynchronized
  have hD := hD0.self (sz := s.heap.size)
  have hA : ∀ q : Nat, s.heap.size ≤ q → va_A (wM E A G z a t r h) s.heap.size q := fun q h => Or.inr h
  have hS : va_S (va_A (wM E A G z a t r h) s.heap.size) s.heap s.heap [] := va_S.rf
  have hl := lv_entry ([.ref (A 0)]) (n := 1) (Nat.le_of_ble_eq_true rfl)
  rw [lg_entry_eq]
  generalize (lg_sl ([.ref (A 0)]) ++ List.replicate (1 - (lg_sl ([.ref (A 0)])).length) Slot.unset).toArray = ls at hl ⊢
  have hl : lv_has ls 1 [(0, .ref (A 0))] := hl
  have hf7 := hts (.fieldLink RX5 7 "PhaseConverterModel" "z" "[I") (List.mem_of_getElem? (i := 1) rfl)
  have hiX5 : ∀ w ∈ u_ws RX5 TX5 15, w ∈ wsX5_aim := memIn [2, 3, 4, 5, 6, 7, 8, 9, 10, 11, 12, 13, 14, 15, 16] rfl
  refine lv_aload_n hx hb dX5_aim_0 rfl (lv_at hl 0 rfl) ?_
  refine va_get (D := E.1) (ci := 5) (v := .ref (A 1)) (C := RX5) (T := TX5) (N := 15) hx hb hts hiX5 hown hK hP 0 rfl rfl 1 (by decide) hf7 (fun _ h9 => h9) rfl dX5_aim_1 ?_
  refine lv_bipush (v := 20) hx hb dX5_aim_4 (by decide) ?_
  refine gald (x := z 20) hx hb hK hP 1 rfl 20 (rfl) (by decide) (by decide) rfl dX5_aim_6 ?_
  refine lv_iconst (v := 1) hx hb dX5_aim_7 (by decide) ?_
  refine lv_icmp_ne (tgt := 68) hx hb dX5_aim_8 (by decide) (fun c_8 => ?_) (fun c_8 => ?_)
  · refine lv_aload_n hx hb dX5_aim_68 rfl (lv_at hl 0 rfl) ?_
    refine va_get (D := E.1) (ci := 5) (v := .ref (A 1)) (C := RX5) (T := TX5) (N := 15) hx hb hts hiX5 hown hK hP 0 rfl rfl 1 (by decide) hf7 (fun _ h9 => h9) rfl dX5_aim_69 ?_
    refine lv_bipush (v := 20) hx hb dX5_aim_72 (by decide) ?_
    refine gald (x := z 20) hx hb hK hP 1 rfl 20 (rfl) (by decide) (by decide) rfl dX5_aim_74 ?_
    refine lv_iconst (v := 2) hx hb dX5_aim_75 (by decide) ?_
    refine lv_icmp_ne (tgt := 92) hx hb dX5_aim_76 (by decide) (fun c_76 => ?_) (fun c_76 => ?_)
    · exact gretv hx hb hr hlocks hP hD hS (by simp only [aim, if_neg c_8, if_neg c_76]) dX5_aim_92
    · refine lv_aload_n hx hb dX5_aim_79 rfl (lv_at hl 0 rfl) ?_
      refine va_get (D := E.1) (ci := 5) (v := .ref (A 1)) (C := RX5) (T := TX5) (N := 15) hx hb hts hiX5 hown hK hP 0 rfl rfl 1 (by decide) hf7 (fun _ h9 => h9) rfl dX5_aim_80 ?_
      refine lv_bipush (v := 18) hx hb dX5_aim_83 (by decide) ?_
      refine lv_aload_n hx hb dX5_aim_85 rfl (lv_at hl 0 rfl) ?_
      refine va_get (D := E.1) (ci := 5) (v := .ref (A 1)) (C := RX5) (T := TX5) (N := 15) hx hb hts hiX5 hown hK hP 0 rfl rfl 1 (by decide) hf7 (fun _ h9 => h9) rfl dX5_aim_86 ?_
      refine lv_iconst (v := 1) hx hb dX5_aim_89 (by decide) ?_
      refine gald (x := z 1) hx hb hK hP 1 rfl 1 (rfl) (by decide) (by decide) rfl dX5_aim_90 ?_
      refine gast hx hb hK hP hD hS 1 rfl 18 (rfl) (by decide) (by decide) dX5_aim_91 (fun H locs hP hD hS => ?_)
      have hP : va_P E.1 vwCl (wM E A G (upd z 18 (z 1)) a t r h) H := hP
      have hD : va_D _ (wM E A G (upd z 18 (z 1)) a t r h) := hD
      exact gretv hx hb hr hlocks hP hD hS (by simp only [aim, if_neg c_8, if_pos c_76]) dX5_aim_92
  · refine lv_aload_n hx hb dX5_aim_11 rfl (lv_at hl 0 rfl) ?_
    refine va_get (D := E.1) (ci := 5) (v := .ref (A 1)) (C := RX5) (T := TX5) (N := 15) hx hb hts hiX5 hown hK hP 0 rfl rfl 1 (by decide) hf7 (fun _ h9 => h9) rfl dX5_aim_12 ?_
    refine lv_bipush (v := 18) hx hb dX5_aim_15 (by decide) ?_
    refine lv_dup2_11 hx hb dX5_aim_17 rfl rfl ?_
    refine gald (x := z 18) hx hb hK hP 1 rfl 18 (rfl) (by decide) (by decide) rfl dX5_aim_18 ?_
    refine lv_aload_n hx hb dX5_aim_19 rfl (lv_at hl 0 rfl) ?_
    refine va_get (D := E.1) (ci := 5) (v := .ref (A 1)) (C := RX5) (T := TX5) (N := 15) hx hb hts hiX5 hown hK hP 0 rfl rfl 1 (by decide) hf7 (fun _ h9 => h9) rfl dX5_aim_20 ?_
    refine lv_bipush (v := 8) hx hb dX5_aim_23 (by decide) ?_
    refine gald (x := z 8) hx hb hK hP 1 rfl 8 (rfl) (by decide) (by decide) rfl dX5_aim_25 ?_
    refine lv_iadd hx hb dX5_aim_26 ?_
    refine gast hx hb hK hP hD hS 1 rfl 18 (rfl) (by decide) (by decide) dX5_aim_27 (fun H locs hP hD hS => ?_)
    have hP : va_P E.1 vwCl (wM E A G (upd z 18 ((z 18) + (z 8))) a t r h) H := hP
    have hD : va_D _ (wM E A G (upd z 18 ((z 18) + (z 8))) a t r h) := hD
    refine lv_aload_n hx hb dX5_aim_28 rfl (lv_at hl 0 rfl) ?_
    refine va_get (D := E.1) (ci := 5) (v := .ref (A 1)) (C := RX5) (T := TX5) (N := 15) hx hb hts hiX5 hown hK hP 0 rfl rfl 1 (by decide) hf7 (fun _ h9 => h9) rfl dX5_aim_29 ?_
    refine lv_bipush (v := 18) hx hb dX5_aim_32 (by decide) ?_
    refine gald (x := (z 18) + (z 8)) hx hb hK hP 1 rfl 18 (rfl) (by decide) (by decide) rfl dX5_aim_34 ?_
    refine lv_aload_n hx hb dX5_aim_35 rfl (lv_at hl 0 rfl) ?_
    refine va_get (D := E.1) (ci := 5) (v := .ref (A 1)) (C := RX5) (T := TX5) (N := 15) hx hb hts hiX5 hown hK hP 0 rfl rfl 1 (by decide) hf7 (fun _ h9 => h9) rfl dX5_aim_36 ?_
    refine lv_iconst (v := 1) hx hb dX5_aim_39 (by decide) ?_
    refine gald (x := z 1) hx hb hK hP 1 rfl 1 (rfl) (by decide) (by decide) rfl dX5_aim_40 ?_
    refine lv_icmp_lt (tgt := 92) hx hb dX5_aim_41 (by decide) (fun c_41 => ?_) (fun c_41 => ?_)
    · exact gretv hx hb hr hlocks hP hD hS (by simp only [aim, if_pos c_8, if_pos c_41]) dX5_aim_92
    · refine lv_aload_n hx hb dX5_aim_44 rfl (lv_at hl 0 rfl) ?_
      refine va_get (D := E.1) (ci := 5) (v := .ref (A 1)) (C := RX5) (T := TX5) (N := 15) hx hb hts hiX5 hown hK hP 0 rfl rfl 1 (by decide) hf7 (fun _ h9 => h9) rfl dX5_aim_45 ?_
      refine lv_bipush (v := 18) hx hb dX5_aim_48 (by decide) ?_
      refine lv_aload_n hx hb dX5_aim_50 rfl (lv_at hl 0 rfl) ?_
      refine va_get (D := E.1) (ci := 5) (v := .ref (A 1)) (C := RX5) (T := TX5) (N := 15) hx hb hts hiX5 hown hK hP 0 rfl rfl 1 (by decide) hf7 (fun _ h9 => h9) rfl dX5_aim_51 ?_
      refine lv_iconst (v := 1) hx hb dX5_aim_54 (by decide) ?_
      refine gald (x := z 1) hx hb hK hP 1 rfl 1 (rfl) (by decide) (by decide) rfl dX5_aim_55 ?_
      refine gast hx hb hK hP hD hS 1 rfl 18 (rfl) (by decide) (by decide) dX5_aim_56 (fun H locs hP hD hS => ?_)
      have hP : va_P E.1 vwCl (wM E A G (upd (upd z 18 ((z 18) + (z 8))) 18 (z 1)) a t r h) H := hP
      have hD : va_D _ (wM E A G (upd (upd z 18 ((z 18) + (z 8))) 18 (z 1)) a t r h) := hD
      refine lv_aload_n hx hb dX5_aim_57 rfl (lv_at hl 0 rfl) ?_
      refine va_get (D := E.1) (ci := 5) (v := .ref (A 1)) (C := RX5) (T := TX5) (N := 15) hx hb hts hiX5 hown hK hP 0 rfl rfl 1 (by decide) hf7 (fun _ h9 => h9) rfl dX5_aim_58 ?_
      refine lv_bipush (v := 20) hx hb dX5_aim_61 (by decide) ?_
      refine lv_iconst (v := 2) hx hb dX5_aim_63 (by decide) ?_
      refine gast hx hb hK hP hD hS 1 rfl 20 (rfl) (by decide) (by decide) dX5_aim_64 (fun H locs hP hD hS => ?_)
      have hP : va_P E.1 vwCl (wM E A G (upd (upd (upd z 18 ((z 18) + (z 8))) 18 (z 1)) 20 2) a t r h) H := hP
      have hD : va_D _ (wM E A G (upd (upd (upd z 18 ((z 18) + (z 8))) 18 (z 1)) 20 2) a t r h) := hD
      refine lv_goto (tgt := 92) hx hb dX5_aim_65 (by decide) ?_
      exact gretv hx hb hr hlocks hP hD hS (by simp only [aim, if_pos c_8, if_neg c_41]) dX5_aim_92

set_option maxHeartbeats 4000000 in
set_option maxRecDepth 100000 in
theorem c_X5_regulate (l : Launch) (E : EE) (A : Nat → Nat) (G z a t r : Nat → Int32) (h : Int64) (h0 : ¬ z 0 = 0) : GM l yX5_regulate wsX5_regulate 1 22 E (wM E A G z a t r h) [.ref (A 0)] (wM E A G (regulate z) a t r h) (none) := by
  intro sz
  refine Met.ofW (cc := cX5_regulate) (maxL := 2) (ret := none) (by decide) rfl ?_
  intro p e s m args below meth c s₁ B hml hv
  obtain ⟨rfl, rfl, hP, hK, hD0, hN⟩ := hv
  have hx := B.exec
  have hb := B.bytes
  have hr := B.returns
  have hts := atoms_spec (ws := wsX5_regulate) B.pre
  have hown : s.vm.findClass RX5 = some m.cls := findClass_of_methodNamed B.named
  have hlocks := B.notSynchronized
  have hD := hD0.self (sz := s.heap.size)
  have hA : ∀ q : Nat, s.heap.size ≤ q → va_A (wM E A G z a t r h) s.heap.size q := fun q h => Or.inr h
  have hS : va_S (va_A (wM E A G z a t r h) s.heap.size) s.heap s.heap [] := va_S.rf
  have hl := lv_entry ([.ref (A 0)]) (n := 2) (Nat.le_of_ble_eq_true rfl)
  rw [lg_entry_eq]
  generalize (lg_sl ([.ref (A 0)]) ++ List.replicate (2 - (lg_sl ([.ref (A 0)])).length) Slot.unset).toArray = ls at hl ⊢
  have hl : lv_has ls 2 [(0, .ref (A 0))] := hl
  have hf7 := hts (.fieldLink RX5 7 "PhaseConverterModel" "z" "[I") (List.mem_of_getElem? (i := 1) rfl)
  have hiX5 : ∀ w ∈ u_ws RX5 TX5 15, w ∈ wsX5_regulate := memIn [8, 9, 10, 11, 12, 13, 14, 15, 16, 17, 18, 19, 20, 21, 22] rfl
  refine lv_aload_n hx hb dX5_regulate_0 rfl (lv_at hl 0 rfl) ?_
  refine va_get (D := E.1) (ci := 5) (v := .ref (A 1)) (C := RX5) (T := TX5) (N := 15) hx hb hts hiX5 hown hK hP 0 rfl rfl 1 (by decide) hf7 (fun _ h9 => h9) rfl dX5_regulate_1 ?_
  refine lv_bipush (v := 18) hx hb dX5_regulate_4 (by decide) ?_
  refine gald (x := z 18) hx hb hK hP 1 rfl 18 (rfl) (by decide) (by decide) rfl dX5_regulate_6 ?_
  refine lv_aload_n hx hb dX5_regulate_7 rfl (lv_at hl 0 rfl) ?_
  refine va_get (D := E.1) (ci := 5) (v := .ref (A 1)) (C := RX5) (T := TX5) (N := 15) hx hb hts hiX5 hown hK hP 0 rfl rfl 1 (by decide) hf7 (fun _ h9 => h9) rfl dX5_regulate_8 ?_
  refine lv_bipush (v := 17) hx hb dX5_regulate_11 (by decide) ?_
  refine gald (x := z 17) hx hb hK hP 1 rfl 17 (rfl) (by decide) (by decide) rfl dX5_regulate_13 ?_
  refine lv_isub hx hb dX5_regulate_14 ?_
  refine lv_istore_n (lv' := [(1, .int ((z 18) - (z 17))), (0, .ref (A 0))]) hx hb dX5_regulate_15 rfl hl (by decide) rfl (fun ls hl => ?_)
  refine lv_aload_n hx hb dX5_regulate_16 rfl (lv_at hl 1 rfl) ?_
  refine va_get (D := E.1) (ci := 5) (v := .ref (A 1)) (C := RX5) (T := TX5) (N := 15) hx hb hts hiX5 hown hK hP 0 rfl rfl 1 (by decide) hf7 (fun _ h9 => h9) rfl dX5_regulate_17 ?_
  refine lv_bipush (v := 19) hx hb dX5_regulate_20 (by decide) ?_
  refine lv_aload_n hx hb dX5_regulate_22 rfl (lv_at hl 1 rfl) ?_
  refine va_get (D := E.1) (ci := 5) (v := .ref (A 1)) (C := RX5) (T := TX5) (N := 15) hx hb hts hiX5 hown hK hP 0 rfl rfl 1 (by decide) hf7 (fun _ h9 => h9) rfl dX5_regulate_23 ?_
  refine lv_bipush (v := 19) hx hb dX5_regulate_26 (by decide) ?_
  refine gald (x := z 19) hx hb hK hP 1 rfl 19 (rfl) (by decide) (by decide) rfl dX5_regulate_28 ?_
  refine lv_iload_n hx hb dX5_regulate_29 rfl (lv_at hl 0 rfl) ?_
  refine lv_iadd hx hb dX5_regulate_30 ?_
  refine lv_ldc (own := RX5) (v := (-100000)) hx hb hown (hts (.constant RX5 39 (-100000)) (List.mem_of_getElem? (i := 2) rfl)) dX5_regulate_31 ?_
  refine lv_ldc (own := RX5) (v := 100000) hx hb hown (hts (.constant RX5 40 (100000)) (List.mem_of_getElem? (i := 3) rfl)) dX5_regulate_33 ?_
  refine gsPi (As := [.int ((z 19) + ((z 18) - (z 17))), .int (-100000), .int 100000]) (rest := [.int 19, .ref (A 1)]) ⟨hx, hb, hml, hown, hts⟩ (c_X5_clamped l E ((z 19) + ((z 18) - (z 17))) (-100000) 100000) (va_cwS 3 hts gX5_regulate_X5_clamped rfl rfl rfl (by decide +kernel) ⟨Nat.le_of_ble_eq_true rfl, Nat.le_of_ble_eq_true rfl⟩) hP hK hD hN hS hA rfl hl.1 rfl (Nat.le_of_ble_eq_true rfl) dX5_regulate_35 ⟨Nat.le_refl _, Nat.le_refl _⟩ (fun H locs hP hD hS => ?_)
  refine gast hx hb hK hP hD hS 1 rfl 19 (rfl) (by decide) (by decide) dX5_regulate_38 (fun H locs hP hD hS => ?_)
  have hP : va_P E.1 vwCl (wM E A G (upd z 19 (clampI ((z 19) + ((z 18) - (z 17))) (-100000) 100000)) a t r h) H := hP
  have hD : va_D _ (wM E A G (upd z 19 (clampI ((z 19) + ((z 18) - (z 17))) (-100000) 100000)) a t r h) := hD
  refine lv_aload_n hx hb dX5_regulate_39 rfl (lv_at hl 1 rfl) ?_
  refine va_get (D := E.1) (ci := 5) (v := .ref (A 1)) (C := RX5) (T := TX5) (N := 15) hx hb hts hiX5 hown hK hP 0 rfl rfl 1 (by decide) hf7 (fun _ h9 => h9) rfl dX5_regulate_40 ?_
  refine lv_bipush (v := 21) hx hb dX5_regulate_43 (by decide) ?_
  refine lv_sipush (v := 1000) hx hb dX5_regulate_45 (by decide) ?_
  refine lv_aload_n hx hb dX5_regulate_48 rfl (lv_at hl 1 rfl) ?_
  refine va_get (D := E.1) (ci := 5) (v := .ref (A 1)) (C := RX5) (T := TX5) (N := 15) hx hb hts hiX5 hown hK hP 0 rfl rfl 1 (by decide) hf7 (fun _ h9 => h9) rfl dX5_regulate_49 ?_
  refine lv_bipush (v := 18) hx hb dX5_regulate_52 (by decide) ?_
  refine gald (x := z 18) hx hb hK hP 1 rfl 18 (rfl) (by decide) (by decide) rfl dX5_regulate_54 ?_
  refine lv_imul hx hb dX5_regulate_55 ?_
  refine lv_aload_n hx hb dX5_regulate_56 rfl (lv_at hl 1 rfl) ?_
  refine va_get (D := E.1) (ci := 5) (v := .ref (A 1)) (C := RX5) (T := TX5) (N := 15) hx hb hts hiX5 hown hK hP 0 rfl rfl 1 (by decide) hf7 (fun _ h9 => h9) rfl dX5_regulate_57 ?_
  refine lv_iconst (v := 0) hx hb dX5_regulate_60 (by decide) ?_
  refine gald (x := z 0) hx hb hK hP 1 rfl 0 (rfl) (by decide) (by decide) rfl dX5_regulate_61 ?_
  refine lv_idiv hx hb dX5_regulate_62 h0 ?_
  refine lv_iload_n hx hb dX5_regulate_63 rfl (lv_at hl 0 rfl) ?_
  refine lv_aload_n hx hb dX5_regulate_64 rfl (lv_at hl 1 rfl) ?_
  refine va_get (D := E.1) (ci := 5) (v := .ref (A 1)) (C := RX5) (T := TX5) (N := 15) hx hb hts hiX5 hown hK hP 0 rfl rfl 1 (by decide) hf7 (fun _ h9 => h9) rfl dX5_regulate_65 ?_
  refine lv_bipush (v := 6) hx hb dX5_regulate_68 (by decide) ?_
  refine gald (x := z 6) hx hb hK hP 1 rfl 6 (rfl) (by decide) (by decide) rfl dX5_regulate_70 ?_
  refine lv_imul hx hb dX5_regulate_71 ?_
  refine lv_bipush (v := 100) hx hb dX5_regulate_72 (by decide) ?_
  refine lv_idiv hx hb dX5_regulate_74 (by decide) ?_
  refine lv_iadd hx hb dX5_regulate_75 ?_
  refine lv_aload_n hx hb dX5_regulate_76 rfl (lv_at hl 1 rfl) ?_
  refine va_get (D := E.1) (ci := 5) (v := .ref (A 1)) (C := RX5) (T := TX5) (N := 15) hx hb hts hiX5 hown hK hP 0 rfl rfl 1 (by decide) hf7 (fun _ h9 => h9) rfl dX5_regulate_77 ?_
  refine lv_bipush (v := 19) hx hb dX5_regulate_80 (by decide) ?_
  refine gald (x := clampI ((z 19) + ((z 18) - (z 17))) (-100000) 100000) hx hb hK hP 1 rfl 19 (rfl) (by decide) (by decide) rfl dX5_regulate_82 ?_
  refine lv_aload_n hx hb dX5_regulate_83 rfl (lv_at hl 1 rfl) ?_
  refine va_get (D := E.1) (ci := 5) (v := .ref (A 1)) (C := RX5) (T := TX5) (N := 15) hx hb hts hiX5 hown hK hP 0 rfl rfl 1 (by decide) hf7 (fun _ h9 => h9) rfl dX5_regulate_84 ?_
  refine lv_bipush (v := 7) hx hb dX5_regulate_87 (by decide) ?_
  refine gald (x := z 7) hx hb hK hP 1 rfl 7 (rfl) (by decide) (by decide) rfl dX5_regulate_89 ?_
  refine lv_imul hx hb dX5_regulate_90 ?_
  refine lv_sipush (v := 10000) hx hb dX5_regulate_91 (by decide) ?_
  refine lv_idiv hx hb dX5_regulate_94 (by decide) ?_
  refine lv_iadd hx hb dX5_regulate_95 ?_
  refine lv_iconst (v := 0) hx hb dX5_regulate_96 (by decide) ?_
  refine lv_sipush (v := 900) hx hb dX5_regulate_97 (by decide) ?_
  refine gsPi (As := [.int ((((1000 * (z 18)) / (z 0)) + ((((z 18) - (z 17)) * (z 6)) / 100)) + (((clampI ((z 19) + ((z 18) - (z 17))) (-100000) 100000) * (z 7)) / 10000)), .int 0, .int 900]) (rest := [.int 21, .ref (A 1)]) ⟨hx, hb, hml, hown, hts⟩ (c_X5_clamped l E ((((1000 * (z 18)) / (z 0)) + ((((z 18) - (z 17)) * (z 6)) / 100)) + (((clampI ((z 19) + ((z 18) - (z 17))) (-100000) 100000) * (z 7)) / 10000)) 0 900) (va_cwS 3 hts gX5_regulate_X5_clamped rfl rfl rfl (by decide +kernel) ⟨Nat.le_of_ble_eq_true rfl, Nat.le_of_ble_eq_true rfl⟩) hP hK hD hN hS hA rfl hl.1 rfl (Nat.le_of_ble_eq_true rfl) dX5_regulate_100 ⟨Nat.le_refl _, Nat.le_refl _⟩ (fun H locs hP hD hS => ?_)
  refine gast hx hb hK hP hD hS 1 rfl 21 (rfl) (by decide) (by decide) dX5_regulate_103 (fun H locs hP hD hS => ?_)
  have hP : va_P E.1 vwCl (wM E A G (upd (upd z 19 (clampI ((z 19) + ((z 18) - (z 17))) (-100000) 100000)) 21 (clampI ((((1000 * (z 18)) / (z 0)) + ((((z 18) - (z 17)) * (z 6)) / 100)) + (((clampI ((z 19) + ((z 18) - (z 17))) (-100000) 100000) * (z 7)) / 10000)) 0 900)) a t r h) H := hP
  have hD : va_D _ (wM E A G (upd (upd z 19 (clampI ((z 19) + ((z 18) - (z 17))) (-100000) 100000)) 21 (clampI ((((1000 * (z 18)) / (z 0)) + ((((z 18) - (z 17)) * (z 6)) / 100)) + (((clampI ((z 19) + ((z 18) - (z 17))) (-100000) 100000) * (z 7)) / 10000)) 0 900)) a t r h) := hD
  exact gretv hx hb hr hlocks hP hD hS (rfl) dX5_regulate_104

set_option maxHeartbeats 4000000 in
set_option maxRecDepth 100000 in
theorem c_X5_stopTo (l : Launch) (E : EE) (A : Nat → Nat) (G z a t r : Nat → Int32) (h : Int64) (v0 : Int32) (hz : zOK z) : GM l yX5_stopTo wsX5_stopTo 1 21 E (wM E A G z a t r h) [.ref (A 0), .int v0] (wM E A G (stopTo v0 z) a t r h) (none) := by
  intro sz
  refine Met.ofW (cc := cX5_stopTo) (maxL := 3) (ret := none) (by decide) rfl ?_
  intro p e s m args below meth c s₁ B hml hv
  obtain ⟨rfl, rfl, hP, hK, hD0, hN⟩ := hv
  have hx := B.exec
  have hb := B.bytes
  have hr := B.returns
  have hts := atoms_spec (ws := wsX5_stopTo) B.pre
  have hown : s.vm.findClass RX5 = some m.cls := findClass_of_methodNamed B.named
  have hlocks := B.notSynchronized
  have hD := hD0.self (sz := s.heap.size)
  have hA : ∀ q : Nat, s.heap.size ≤ q → va_A (wM E A G z a t r h) s.heap.size q := fun q h => Or.inr h
  have hS : va_S (va_A (wM E A G z a t r h) s.heap.size) s.heap s.heap [] := va_S.rf
  have hl := lv_entry ([.ref (A 0), .int v0]) (n := 3) (Nat.le_of_ble_eq_true rfl)
  rw [lg_entry_eq]
  generalize (lg_sl ([.ref (A 0), .int v0]) ++ List.replicate (3 - (lg_sl ([.ref (A 0), .int v0])).length) Slot.unset).toArray = ls at hl ⊢
  have hl : lv_has ls 3 [(0, .ref (A 0)), (1, .int v0)] := hl
  have hf7 := hts (.fieldLink RX5 7 "PhaseConverterModel" "z" "[I") (List.mem_of_getElem? (i := 1) rfl)
  have hiX5 : ∀ w ∈ u_ws RX5 TX5 15, w ∈ wsX5_stopTo := memIn [6, 7, 8, 9, 10, 11, 12, 13, 14, 15, 16, 17, 18, 19, 20] rfl
  have hn4 := hz.2.2.1
  refine lv_aload_n hx hb dX5_stopTo_0 rfl (lv_at hl 0 rfl) ?_
  refine va_get (D := E.1) (ci := 5) (v := .ref (A 1)) (C := RX5) (T := TX5) (N := 15) hx hb hts hiX5 hown hK hP 0 rfl rfl 1 (by decide) hf7 (fun _ h9 => h9) rfl dX5_stopTo_1 ?_
  refine lv_bipush (v := 20) hx hb dX5_stopTo_4 (by decide) ?_
  refine lv_iload_n hx hb dX5_stopTo_6 rfl (lv_at hl 1 rfl) ?_
  refine gast hx hb hK hP hD hS 1 rfl 20 (rfl) (by decide) (by decide) dX5_stopTo_7 (fun H locs hP hD hS => ?_)
  have hP : va_P E.1 vwCl (wM E A G (upd z 20 v0) a t r h) H := hP
  have hD : va_D _ (wM E A G (upd z 20 v0) a t r h) := hD
  refine lv_iconst (v := 0) hx hb dX5_stopTo_8 (by decide) ?_
  refine lv_istore_n (lv' := [(2, .int 0), (0, .ref (A 0)), (1, .int v0)]) hx hb dX5_stopTo_9 rfl hl (by decide) rfl (fun ls hl => ?_)
  have L_10 : ∀ (n i : Nat) (z1 : Nat → Int32) (H : Heap) (locs : List Loc) (ls : Array Slot), (i + n = nOf z) → (z1 15 = nI (nOf z)) → (stopL n i z1 = stopL (nOf z) 0 (upd z 20 v0)) → va_P E.1 vwCl (wM E A G z1 a t r h) H → va_D (va_A (wM E A G z a t r h) s.heap.size) (wM E A G z1 a t r h) → va_S (va_A (wM E A G z a t r h) s.heap.size) s.heap H locs → lv_has ls 3 [(2, .int (nI i)), (0, .ref (A 0)), (1, .int v0)] → W p l e (gR wsX5_stopTo 1 21) s m ([.ref (A 0), .int v0] : List Value).toArray below meth c H locs 0 0 (gMQ below E s (wM E A G z a t r h) (wM E A G (stopTo v0 z) a t r h) (none) [.ref (A 0), .int v0]) (F0 m 10 ls []) := by
    intro n
    induction n with
    | zero =>
      intro i z1 H locs ls hin h1 hfn hP hD hS hl
      have hfn : z1 = stopTo v0 z := hfn
      subst hfn
      refine lv_iload_n hx hb dX5_stopTo_10 rfl (lv_at hl 0 rfl) ?_
      refine lv_aload_n hx hb dX5_stopTo_11 rfl (lv_at hl 1 rfl) ?_
      refine va_get (D := E.1) (ci := 5) (v := .ref (A 1)) (C := RX5) (T := TX5) (N := 15) hx hb hts hiX5 hown hK hP 0 rfl rfl 1 (by decide) hf7 (fun _ h9 => h9) rfl dX5_stopTo_12 ?_
      refine lv_bipush (v := 15) hx hb dX5_stopTo_15 (by decide) ?_
      refine gald (x := (stopTo v0 z) 15) hx hb hK hP 1 rfl 15 (rfl) (by decide) (by decide) rfl dX5_stopTo_17 ?_
      refine lv_icmp_ge (tgt := 38) hx hb dX5_stopTo_18 (by decide) (fun c_18 => ?_) (fun c_18 => absurd (by rw [h1]; exact nI_le (by omega) (by omega)) c_18)
      exact gretv hx hb hr hlocks hP hD hS (rfl) dX5_stopTo_38
    | succ n ih =>
      intro i z1 H locs ls hin h1 hfn hP hD hS hl
      refine lv_iload_n hx hb dX5_stopTo_10 rfl (lv_at hl 0 rfl) ?_
      refine lv_aload_n hx hb dX5_stopTo_11 rfl (lv_at hl 1 rfl) ?_
      refine va_get (D := E.1) (ci := 5) (v := .ref (A 1)) (C := RX5) (T := TX5) (N := 15) hx hb hts hiX5 hown hK hP 0 rfl rfl 1 (by decide) hf7 (fun _ h9 => h9) rfl dX5_stopTo_12 ?_
      refine lv_bipush (v := 15) hx hb dX5_stopTo_15 (by decide) ?_
      refine gald (x := z1 15) hx hb hK hP 1 rfl 15 (rfl) (by decide) (by decide) rfl dX5_stopTo_17 ?_
      refine lv_icmp_ge (tgt := 38) hx hb dX5_stopTo_18 (by decide) (fun c_18 => absurd c_18 (by rw [h1]; exact nI_ge (by omega) (by omega))) (fun c_18 => ?_)
      refine lv_aload_n hx hb dX5_stopTo_21 rfl (lv_at hl 1 rfl) ?_
      refine va_get (D := E.1) (ci := 5) (v := .ref (A 1)) (C := RX5) (T := TX5) (N := 15) hx hb hts hiX5 hown hK hP 0 rfl rfl 1 (by decide) hf7 (fun _ h9 => h9) rfl dX5_stopTo_22 ?_
      refine lv_iload_n hx hb dX5_stopTo_25 rfl (lv_at hl 0 rfl) ?_
      refine lv_iconst (v := 1) hx hb dX5_stopTo_26 (by decide) ?_
      refine gsPi (As := [.int (nI i), .int 1]) (rest := [.ref (A 1)]) ⟨hx, hb, hml, hown, hts⟩ (c_X5_at l E i 1) (va_cwS 2 hts gX5_stopTo_X5_at rfl rfl rfl (by decide +kernel) ⟨Nat.le_of_ble_eq_true rfl, Nat.le_of_ble_eq_true rfl⟩) hP hK hD hN hS hA rfl hl.1 rfl (Nat.le_of_ble_eq_true rfl) dX5_stopTo_27 ⟨Nat.le_refl _, Nat.le_refl _⟩ (fun H locs hP hD hS => ?_)
      refine lv_iconst (v := 0) hx hb dX5_stopTo_30 (by decide) ?_
      refine gast hx hb hK hP hD hS 1 rfl (35 + 7 * i + 1) (rfl) (by omega) (by decide) dX5_stopTo_31 (fun H locs hP hD hS => ?_)
      have hP : va_P E.1 vwCl (wM E A G (upd z1 (35 + 7 * i + 1) 0) a t r h) H := hP
      have hD : va_D _ (wM E A G (upd z1 (35 + 7 * i + 1) 0) a t r h) := hD
      refine lv_iinc (v := nI (i + 1)) (lv' := [(2, .int (nI (i + 1))), (0, .ref (A 0)), (1, .int v0)]) hx hb dX5_stopTo_32 hl (k := 0) rfl (nI_1 _) (by decide) rfl (fun ls hl => ?_)
      refine lv_goto (tgt := 10) hx hb dX5_stopTo_35 (by decide) ?_
      exact ih (i + 1) (upd z1 (35 + 7 * i + 1) 0) H locs ls (by omega) ((pk_un (by omega)).trans h1) (hfn) hP hD hS (lv_sub hl [0, 1, 2] rfl)
  exact L_10 (nOf z) (0) (upd z 20 v0) H locs ls (by omega) (hz.1) rfl hP hD hS (lv_sub hl [0, 1, 2] rfl)

set_option maxHeartbeats 4000000 in
set_option maxRecDepth 100000 in
theorem c_X5_sum (l : Launch) (E : EE) (A : Nat → Nat) (G z a t r : Nat → Int32) (h : Int64) (k0 : Nat) (hk : k0 ≤ 4) : GM l yX5_sum wsX5_sum 1 21 E (wM E A G z a t r h) [.ref (A 0), .int (nI k0)] (wM E A G z a t r h) (some (.int (sumC k0 z))) := by
  intro sz
  refine Met.ofW (cc := cX5_sum) (maxL := 4) (ret := (some .int)) (by decide) rfl ?_
  intro p e s m args below meth c s₁ B hml hv
  obtain ⟨rfl, rfl, hP, hK, hD0, hN⟩ := hv
  have hx := B.exec
  have hb := B.bytes
  have hr := B.returns
  have hts := atoms_spec (ws := wsX5_sum) B.pre
  have hown : s.vm.findClass RX5 = some m.cls := findClass_of_methodNamed B.named
  have hlocks := B.notSynchronized
  have hD := hD0.self (sz := s.heap.size)
  have hA : ∀ q : Nat, s.heap.size ≤ q → va_A (wM E A G z a t r h) s.heap.size q := fun q h => Or.inr h
  have hS : va_S (va_A (wM E A G z a t r h) s.heap.size) s.heap s.heap [] := va_S.rf
  have hl := lv_entry ([.ref (A 0), .int (nI k0)]) (n := 4) (Nat.le_of_ble_eq_true rfl)
  rw [lg_entry_eq]
  generalize (lg_sl ([.ref (A 0), .int (nI k0)]) ++ List.replicate (4 - (lg_sl ([.ref (A 0), .int (nI k0)])).length) Slot.unset).toArray = ls at hl ⊢
  have hl : lv_has ls 4 [(0, .ref (A 0)), (1, .int (nI k0))] := hl
  have hf7 := hts (.fieldLink RX5 7 "PhaseConverterModel" "z" "[I") (List.mem_of_getElem? (i := 1) rfl)
  have hiX5 : ∀ w ∈ u_ws RX5 TX5 15, w ∈ wsX5_sum := memIn [6, 7, 8, 9, 10, 11, 12, 13, 14, 15, 16, 17, 18, 19, 20] rfl
  refine lv_iconst (v := 0) hx hb dX5_sum_0 (by decide) ?_
  refine lv_istore_n (lv' := [(2, .int 0), (0, .ref (A 0)), (1, .int (nI k0))]) hx hb dX5_sum_1 rfl hl (by decide) rfl (fun ls hl => ?_)
  refine lv_iconst (v := 0) hx hb dX5_sum_2 (by decide) ?_
  refine lv_istore_n (lv' := [(3, .int 0), (2, .int 0), (0, .ref (A 0)), (1, .int (nI k0))]) hx hb dX5_sum_3 rfl hl (by decide) rfl (fun ls hl => ?_)
  have L_4 : ∀ (n i : Nat) (x1 : Int32) (H : Heap) (locs : List Loc) (ls : Array Slot), (i + n = k0) → (sumL z n i x1 = sumL z k0 0 0) → va_P E.1 vwCl (wM E A G z a t r h) H → va_D (va_A (wM E A G z a t r h) s.heap.size) (wM E A G z a t r h) → va_S (va_A (wM E A G z a t r h) s.heap.size) s.heap H locs → lv_has ls 4 [(3, .int (nI i)), (2, .int x1), (0, .ref (A 0)), (1, .int (nI k0))] → W p l e (gR wsX5_sum 1 21) s m ([.ref (A 0), .int (nI k0)] : List Value).toArray below meth c H locs 0 0 (gMQ below E s (wM E A G z a t r h) (wM E A G z a t r h) (some (.int (sumC k0 z))) [.ref (A 0), .int (nI k0)]) (F0 m 4 ls []) := by
    intro n
    induction n with
    | zero =>
      intro i x1 H locs ls hin  hfn hP hD hS hl
      refine lv_iload_n hx hb dX5_sum_4 rfl (lv_at hl 0 rfl) ?_
      refine lv_iload_n hx hb dX5_sum_5 rfl (lv_at hl 3 rfl) ?_
      refine lv_icmp_ge (tgt := 28) hx hb dX5_sum_6 (by decide) (fun c_6 => ?_) (fun c_6 => absurd (nI_le (by omega) (by omega)) c_6)
      refine lv_iload_n hx hb dX5_sum_28 rfl (lv_at hl 1 rfl) ?_
      exact greti hx hb hr hlocks hP hD hS (hfn) (rfl) dX5_sum_29
    | succ n ih =>
      intro i x1 H locs ls hin  hfn hP hD hS hl
      refine lv_iload_n hx hb dX5_sum_4 rfl (lv_at hl 0 rfl) ?_
      refine lv_iload_n hx hb dX5_sum_5 rfl (lv_at hl 3 rfl) ?_
      refine lv_icmp_ge (tgt := 28) hx hb dX5_sum_6 (by decide) (fun c_6 => absurd c_6 (nI_ge (by omega) (by omega))) (fun c_6 => ?_)
      refine lv_iload_n hx hb dX5_sum_9 rfl (lv_at hl 1 rfl) ?_
      refine lv_aload_n hx hb dX5_sum_10 rfl (lv_at hl 2 rfl) ?_
      refine va_get (D := E.1) (ci := 5) (v := .ref (A 1)) (C := RX5) (T := TX5) (N := 15) hx hb hts hiX5 hown hK hP 0 rfl rfl 1 (by decide) hf7 (fun _ h9 => h9) rfl dX5_sum_11 ?_
      refine lv_iload_n hx hb dX5_sum_14 rfl (lv_at hl 0 rfl) ?_
      refine lv_iconst (v := 0) hx hb dX5_sum_15 (by decide) ?_
      refine gsPi (As := [.int (nI i), .int 0]) (rest := [.ref (A 1), .int x1]) ⟨hx, hb, hml, hown, hts⟩ (c_X5_at l E i 0) (va_cwS 2 hts gX5_sum_X5_at rfl rfl rfl (by decide +kernel) ⟨Nat.le_of_ble_eq_true rfl, Nat.le_of_ble_eq_true rfl⟩) hP hK hD hN hS hA rfl hl.1 rfl (Nat.le_of_ble_eq_true rfl) dX5_sum_16 ⟨Nat.le_refl _, Nat.le_refl _⟩ (fun H locs hP hD hS => ?_)
      refine gald (x := z (35 + 7 * i + 0)) hx hb hK hP 1 rfl (35 + 7 * i + 0) (rfl) (by omega) (by decide) rfl dX5_sum_19 ?_
      refine lv_iadd hx hb dX5_sum_20 ?_
      refine lv_istore_n (lv' := [(2, .int (x1 + (z (35 + 7 * i + 0)))), (3, .int (nI i)), (0, .ref (A 0)), (1, .int (nI k0))]) hx hb dX5_sum_21 rfl hl (by decide) rfl (fun ls hl => ?_)
      refine lv_iinc (v := nI (i + 1)) (lv' := [(3, .int (nI (i + 1))), (2, .int (x1 + (z (35 + 7 * i + 0)))), (0, .ref (A 0)), (1, .int (nI k0))]) hx hb dX5_sum_22 hl (k := 1) rfl (nI_1 _) (by decide) rfl (fun ls hl => ?_)
      refine lv_goto (tgt := 4) hx hb dX5_sum_25 (by decide) ?_
      exact ih (i + 1) (x1 + (z (35 + 7 * i + 0))) H locs ls (by omega)  (hfn) hP hD hS (lv_sub hl [0, 1, 2, 3] rfl)
  exact L_4 (k0) (0) 0 s.heap [] ls (by omega)  rfl hP hD hS (lv_sub hl [0, 1, 2, 3] rfl)

set_option maxHeartbeats 4000000 in
set_option maxRecDepth 100000 in
theorem c_X5_choosePhases (l : Launch) (E : EE) (A : Nat → Nat) (G z a t r : Nat → Int32) (h : Int64) (hz : zOK z) : GM l yX5_choosePhases wsX5_choosePhases 1 21 E (wM E A G z a t r h) [.ref (A 0)] (wM E A G (choose z) a t r h) (none) := by
  intro sz
  refine Met.ofW (cc := cX5_choosePhases) (maxL := 3) (ret := none) (by decide) rfl ?_
  intro p e s m args below meth c s₁ B hml hv
  obtain ⟨rfl, rfl, hP, hK, hD0, hN⟩ := hv
  have hx := B.exec
  have hb := B.bytes
  have hr := B.returns
  have hts := atoms_spec (ws := wsX5_choosePhases) B.pre
  have hown : s.vm.findClass RX5 = some m.cls := findClass_of_methodNamed B.named
  have hlocks := B.notSynchronized
  have hD := hD0.self (sz := s.heap.size)
  have hA : ∀ q : Nat, s.heap.size ≤ q → va_A (wM E A G z a t r h) s.heap.size q := fun q h => Or.inr h
  have hS : va_S (va_A (wM E A G z a t r h) s.heap.size) s.heap s.heap [] := va_S.rf
  have hl := lv_entry ([.ref (A 0)]) (n := 3) (Nat.le_of_ble_eq_true rfl)
  rw [lg_entry_eq]
  generalize (lg_sl ([.ref (A 0)]) ++ List.replicate (3 - (lg_sl ([.ref (A 0)])).length) Slot.unset).toArray = ls at hl ⊢
  have hl : lv_has ls 3 [(0, .ref (A 0))] := hl
  have hf7 := hts (.fieldLink RX5 7 "PhaseConverterModel" "z" "[I") (List.mem_of_getElem? (i := 1) rfl)
  have hiX5 : ∀ w ∈ u_ws RX5 TX5 15, w ∈ wsX5_choosePhases := memIn [10, 11, 12, 13, 14, 15, 16, 17, 18, 19, 20, 21, 22, 23, 24] rfl
  have hn4 := hz.2.2.1
  have hm1 := hz.2.2.2.2.1
  have hmn := hz.2.2.2.2.2.1
  refine lv_aload_n hx hb dX5_choosePhases_0 rfl (lv_at hl 0 rfl) ?_
  refine va_get (D := E.1) (ci := 5) (v := .ref (A 1)) (C := RX5) (T := TX5) (N := 15) hx hb hts hiX5 hown hK hP 0 rfl rfl 1 (by decide) hf7 (fun _ h9 => h9) rfl dX5_choosePhases_1 ?_
  refine lv_bipush (v := 16) hx hb dX5_choosePhases_4 (by decide) ?_
  refine gald (x := z 16) hx hb hK hP 1 rfl 16 (rfl) (by decide) (by decide) rfl dX5_choosePhases_6 ?_
  refine lv_istore_n (lv' := [(1, .int (z 16)), (0, .ref (A 0))]) hx hb dX5_choosePhases_7 rfl hl (by decide) rfl (fun ls hl => ?_)
  refine lv_aload_n hx hb dX5_choosePhases_8 rfl (lv_at hl 1 rfl) ?_
  refine va_get (D := E.1) (ci := 5) (v := .ref (A 1)) (C := RX5) (T := TX5) (N := 15) hx hb hts hiX5 hown hK hP 0 rfl rfl 1 (by decide) hf7 (fun _ h9 => h9) rfl dX5_choosePhases_9 ?_
  refine lv_bipush (v := 22) hx hb dX5_choosePhases_12 (by decide) ?_
  refine gald (x := z 22) hx hb hK hP 1 rfl 22 (rfl) (by decide) (by decide) rfl dX5_choosePhases_14 ?_
  refine lv_istore_n (lv' := [(2, .int (z 22)), (1, .int (z 16)), (0, .ref (A 0))]) hx hb dX5_choosePhases_15 rfl hl (by decide) rfl (fun ls hl => ?_)
  refine lv_aload_n hx hb dX5_choosePhases_16 rfl (lv_at hl 2 rfl) ?_
  refine va_get (D := E.1) (ci := 5) (v := .ref (A 1)) (C := RX5) (T := TX5) (N := 15) hx hb hts hiX5 hown hK hP 0 rfl rfl 1 (by decide) hf7 (fun _ h9 => h9) rfl dX5_choosePhases_17 ?_
  refine lv_bipush (v := 29) hx hb dX5_choosePhases_20 (by decide) ?_
  refine lv_iload_n hx hb dX5_choosePhases_22 rfl (lv_at hl 0 rfl) ?_
  refine lv_aload_n hx hb dX5_choosePhases_23 rfl (lv_at hl 2 rfl) ?_
  refine va_get (D := E.1) (ci := 5) (v := .ref (A 1)) (C := RX5) (T := TX5) (N := 15) hx hb hts hiX5 hown hK hP 0 rfl rfl 1 (by decide) hf7 (fun _ h9 => h9) rfl dX5_choosePhases_24 ?_
  refine lv_bipush (v := 10) hx hb dX5_choosePhases_27 (by decide) ?_
  refine gald (x := z 10) hx hb hK hP 1 rfl 10 (rfl) (by decide) (by decide) rfl dX5_choosePhases_29 ?_
  refine lv_iload_n hx hb dX5_choosePhases_30 rfl (lv_at hl 1 rfl) ?_
  refine lv_imul hx hb dX5_choosePhases_31 ?_
  obtain ⟨x_1, ex_1⟩ : ∃ y : Int32, y = (if (z 22) ≤ ((z 10) * (z 16)) then 0 else (if (z 15) ≤ (z 16) then 0 else (z 29) + 1)) := ⟨_, rfl⟩
  have fx1 : x_1 = adI z := ex_1
  have J_32 : ∀ (H : Heap) (locs : List Loc) (ls : Array Slot), va_P E.1 vwCl (wM E A G z a t r h) H → va_D (va_A (wM E A G z a t r h) s.heap.size) (wM E A G z a t r h) → va_S (va_A (wM E A G z a t r h) s.heap.size) s.heap H locs → lv_has ls 3 [(2, .int (z 22)), (1, .int (z 16)), (0, .ref (A 0))] → W p l e (gR wsX5_choosePhases 1 21) s m ([.ref (A 0)] : List Value).toArray below meth c H locs 0 0 (gMQ below E s (wM E A G z a t r h) (wM E A G (choose z) a t r h) (none) [.ref (A 0)]) (F0 m 59 ls [.int x_1, .int 29, .ref (A 1)]) := by
    intro H locs ls hP hD hS hl
    refine gast hx hb hK hP hD hS 1 rfl 29 (rfl) (by decide) (by decide) dX5_choosePhases_59 (fun H locs hP hD hS => ?_)
    have hP : va_P E.1 vwCl (wM E A G (upd z 29 x_1) a t r h) H := hP
    have hD : va_D _ (wM E A G (upd z 29 x_1) a t r h) := hD
    refine lv_aload_n hx hb dX5_choosePhases_60 rfl (lv_at hl 2 rfl) ?_
    refine va_get (D := E.1) (ci := 5) (v := .ref (A 1)) (C := RX5) (T := TX5) (N := 15) hx hb hts hiX5 hown hK hP 0 rfl rfl 1 (by decide) hf7 (fun _ h9 => h9) rfl dX5_choosePhases_61 ?_
    refine lv_bipush (v := 29) hx hb dX5_choosePhases_64 (by decide) ?_
    refine gald (x := x_1) hx hb hK hP 1 rfl 29 (rfl) (by decide) (by decide) rfl dX5_choosePhases_66 ?_
    refine lv_iconst (v := 3) hx hb dX5_choosePhases_67 (by decide) ?_
    refine lv_icmp_ne (tgt := 79) hx hb dX5_choosePhases_68 (by decide) (fun c_68 => ?_) (fun c_68 => ?_)
    · refine lv_aload_n hx hb dX5_choosePhases_79 rfl (lv_at hl 2 rfl) ?_
      refine va_get (D := E.1) (ci := 5) (v := .ref (A 1)) (C := RX5) (T := TX5) (N := 15) hx hb hts hiX5 hown hK hP 0 rfl rfl 1 (by decide) hf7 (fun _ h9 => h9) rfl dX5_choosePhases_80 ?_
      refine lv_bipush (v := 30) hx hb dX5_choosePhases_83 (by decide) ?_
      refine lv_iload_n hx hb dX5_choosePhases_85 rfl (lv_at hl 1 rfl) ?_
      refine lv_iconst (v := 1) hx hb dX5_choosePhases_86 (by decide) ?_
      obtain ⟨x_2, ex_2⟩ : ∃ y : Int32, y = (if (z 16) ≤ 1 then 0 else (if ((z 11) * ((z 16) - 1)) ≤ (z 22) then 0 else (z 30) + 1)) := ⟨_, rfl⟩
      have fx2 : x_2 = shI z := ex_2
      have J_87 : ∀ (H : Heap) (locs : List Loc) (ls : Array Slot), va_P E.1 vwCl (wM E A G (upd z 29 x_1) a t r h) H → va_D (va_A (wM E A G z a t r h) s.heap.size) (wM E A G (upd z 29 x_1) a t r h) → va_S (va_A (wM E A G z a t r h) s.heap.size) s.heap H locs → lv_has ls 3 [(2, .int (z 22)), (1, .int (z 16)), (0, .ref (A 0))] → W p l e (gR wsX5_choosePhases 1 21) s m ([.ref (A 0)] : List Value).toArray below meth c H locs 0 0 (gMQ below E s (wM E A G z a t r h) (wM E A G (choose z) a t r h) (none) [.ref (A 0)]) (F0 m 118 ls [.int x_2, .int 30, .ref (A 1)]) := by
        intro H locs ls hP hD hS hl
        refine gast hx hb hK hP hD hS 1 rfl 30 (rfl) (by decide) (by decide) dX5_choosePhases_118 (fun H locs hP hD hS => ?_)
        have hP : va_P E.1 vwCl (wM E A G (upd (upd z 29 x_1) 30 x_2) a t r h) H := hP
        have hD : va_D _ (wM E A G (upd (upd z 29 x_1) 30 x_2) a t r h) := hD
        refine lv_aload_n hx hb dX5_choosePhases_119 rfl (lv_at hl 2 rfl) ?_
        refine va_get (D := E.1) (ci := 5) (v := .ref (A 1)) (C := RX5) (T := TX5) (N := 15) hx hb hts hiX5 hown hK hP 0 rfl rfl 1 (by decide) hf7 (fun _ h9 => h9) rfl dX5_choosePhases_120 ?_
        refine lv_bipush (v := 30) hx hb dX5_choosePhases_123 (by decide) ?_
        refine gald (x := x_2) hx hb hK hP 1 rfl 30 (rfl) (by decide) (by decide) rfl dX5_choosePhases_125 ?_
        refine lv_iconst (v := 5) hx hb dX5_choosePhases_126 (by decide) ?_
        refine lv_icmp_ne (tgt := 150) hx hb dX5_choosePhases_127 (by decide) (fun c_127 => ?_) (fun c_127 => ?_)
        · exact gretv hx hb hr hlocks hP hD hS (by simp only [choose, ← fx1, ← fx2, if_neg c_68, if_neg c_127]) dX5_choosePhases_150
        · refine lv_aload_n hx hb dX5_choosePhases_130 rfl (lv_at hl 2 rfl) ?_
          refine lv_iload_n hx hb dX5_choosePhases_131 rfl (lv_at hl 1 rfl) ?_
          refine lv_iconst (v := 1) hx hb dX5_choosePhases_132 (by decide) ?_
          refine lv_isub hx hb dX5_choosePhases_133 ?_
          refine gv0v (As := [.int ((z 16) - 1)]) (rest := []) ⟨hx, hb, hml, hown, hts⟩ (c_X5_changePhases l E A G (upd (upd z 29 x_1) 30 x_2) a t r h ((z 16) - 1)) (cwV 1 hts gX5_choosePhases_X5_changePhases rfl rfl rfl (by decide +kernel) ⟨Nat.le_of_ble_eq_true rfl, Nat.le_of_ble_eq_true rfl⟩) (va_recv hK hP (ci := 5) (q0 := 0) rfl rfl) hP hK hD hN hS hA rfl hl.1 rfl (Nat.le_of_ble_eq_true rfl) dX5_choosePhases_134 ⟨Nat.le_refl _, Nat.le_refl _⟩ (fun H locs hP hD hS => ?_)
          have hP : va_P E.1 vwCl (wM E A G (changePh ((z 16) - 1) (upd (upd z 29 x_1) 30 x_2)) a t r h) H := hP
          have hD : va_D _ (wM E A G (changePh ((z 16) - 1) (upd (upd z 29 x_1) 30 x_2)) a t r h) := hD
          refine lv_aload_n hx hb dX5_choosePhases_137 rfl (lv_at hl 2 rfl) ?_
          refine va_get (D := E.1) (ci := 5) (v := .ref (A 1)) (C := RX5) (T := TX5) (N := 15) hx hb hts hiX5 hown hK hP 0 rfl rfl 1 (by decide) hf7 (fun _ h9 => h9) rfl dX5_choosePhases_138 ?_
          refine lv_iload_n hx hb dX5_choosePhases_141 rfl (lv_at hl 1 rfl) ?_
          refine lv_iconst (v := 1) hx hb dX5_choosePhases_142 (by decide) ?_
          refine lv_isub hx hb dX5_choosePhases_143 ?_
          refine W.eq (g2 := F0 m 144 ls [.int (nI (mOf z - 1)), .ref (A 1)]) (by rw [zOK_m1 hz]) ?_
          refine lv_iconst (v := 1) hx hb dX5_choosePhases_144 (by decide) ?_
          refine gsPi (As := [.int (nI (mOf z - 1)), .int 1]) (rest := [.ref (A 1)]) ⟨hx, hb, hml, hown, hts⟩ (c_X5_at l E (mOf z - 1) 1) (va_cwS 2 hts gX5_choosePhases_X5_at rfl rfl rfl (by decide +kernel) ⟨Nat.le_of_ble_eq_true rfl, Nat.le_of_ble_eq_true rfl⟩) hP hK hD hN hS hA rfl hl.1 rfl (Nat.le_of_ble_eq_true rfl) dX5_choosePhases_145 ⟨Nat.le_refl _, Nat.le_refl _⟩ (fun H locs hP hD hS => ?_)
          refine lv_iconst (v := 0) hx hb dX5_choosePhases_148 (by decide) ?_
          refine gast hx hb hK hP hD hS 1 rfl (35 + 7 * (mOf z - 1) + 1) (rfl) (by omega) (by decide) dX5_choosePhases_149 (fun H locs hP hD hS => ?_)
          have hP : va_P E.1 vwCl (wM E A G (upd (changePh ((z 16) - 1) (upd (upd z 29 x_1) 30 x_2)) (35 + 7 * (mOf z - 1) + 1) 0) a t r h) H := hP
          have hD : va_D _ (wM E A G (upd (changePh ((z 16) - 1) (upd (upd z 29 x_1) 30 x_2)) (35 + 7 * (mOf z - 1) + 1) 0) a t r h) := hD
          exact gretv hx hb hr hlocks hP hD hS (by simp only [choose, ← fx1, ← fx2, if_neg c_68, if_pos c_127]) dX5_choosePhases_150
      refine lv_icmp_le (tgt := 117) hx hb dX5_choosePhases_87 (by decide) (fun c_87 => ?_) (fun c_87 => ?_)
      · refine lv_iconst (v := 0) hx hb dX5_choosePhases_117 (by decide) ?_
        refine W.eq (g2 := F0 m 118 ls [.int x_2, .int 30, .ref (A 1)]) (by rw [ex_2]; simp only [if_pos c_87]) ?_
        exact J_87 H locs ls (hP) (hD) hS (lv_sub hl [0, 1, 2] rfl)
      · refine lv_iload_n hx hb dX5_choosePhases_90 rfl (lv_at hl 0 rfl) ?_
        refine lv_aload_n hx hb dX5_choosePhases_91 rfl (lv_at hl 2 rfl) ?_
        refine va_get (D := E.1) (ci := 5) (v := .ref (A 1)) (C := RX5) (T := TX5) (N := 15) hx hb hts hiX5 hown hK hP 0 rfl rfl 1 (by decide) hf7 (fun _ h9 => h9) rfl dX5_choosePhases_92 ?_
        refine lv_bipush (v := 11) hx hb dX5_choosePhases_95 (by decide) ?_
        refine gald (x := z 11) hx hb hK hP 1 rfl 11 (rfl) (by decide) (by decide) rfl dX5_choosePhases_97 ?_
        refine lv_iload_n hx hb dX5_choosePhases_98 rfl (lv_at hl 1 rfl) ?_
        refine lv_iconst (v := 1) hx hb dX5_choosePhases_99 (by decide) ?_
        refine lv_isub hx hb dX5_choosePhases_100 ?_
        refine lv_imul hx hb dX5_choosePhases_101 ?_
        refine lv_icmp_ge (tgt := 117) hx hb dX5_choosePhases_102 (by decide) (fun c_102 => ?_) (fun c_102 => ?_)
        · refine lv_iconst (v := 0) hx hb dX5_choosePhases_117 (by decide) ?_
          refine W.eq (g2 := F0 m 118 ls [.int x_2, .int 30, .ref (A 1)]) (by rw [ex_2]; simp only [if_neg c_87, if_pos c_102]) ?_
          exact J_87 H locs ls (hP) (hD) hS (lv_sub hl [0, 1, 2] rfl)
        · refine lv_aload_n hx hb dX5_choosePhases_105 rfl (lv_at hl 2 rfl) ?_
          refine va_get (D := E.1) (ci := 5) (v := .ref (A 1)) (C := RX5) (T := TX5) (N := 15) hx hb hts hiX5 hown hK hP 0 rfl rfl 1 (by decide) hf7 (fun _ h9 => h9) rfl dX5_choosePhases_106 ?_
          refine lv_bipush (v := 30) hx hb dX5_choosePhases_109 (by decide) ?_
          refine gald (x := z 30) hx hb hK hP 1 rfl 30 (rfl) (by decide) (by decide) rfl dX5_choosePhases_111 ?_
          refine lv_iconst (v := 1) hx hb dX5_choosePhases_112 (by decide) ?_
          refine lv_iadd hx hb dX5_choosePhases_113 ?_
          refine lv_goto (tgt := 118) hx hb dX5_choosePhases_114 (by decide) ?_
          refine W.eq (g2 := F0 m 118 ls [.int x_2, .int 30, .ref (A 1)]) (by rw [ex_2]; simp only [if_neg c_87, if_neg c_102]) ?_
          exact J_87 H locs ls (hP) (hD) hS (lv_sub hl [0, 1, 2] rfl)
    · refine lv_aload_n hx hb dX5_choosePhases_71 rfl (lv_at hl 2 rfl) ?_
      refine lv_iload_n hx hb dX5_choosePhases_72 rfl (lv_at hl 1 rfl) ?_
      refine lv_iconst (v := 1) hx hb dX5_choosePhases_73 (by decide) ?_
      refine lv_iadd hx hb dX5_choosePhases_74 ?_
      refine gv0v (As := [.int ((z 16) + 1)]) (rest := []) ⟨hx, hb, hml, hown, hts⟩ (c_X5_changePhases l E A G (upd z 29 x_1) a t r h ((z 16) + 1)) (cwV 1 hts gX5_choosePhases_X5_changePhases rfl rfl rfl (by decide +kernel) ⟨Nat.le_of_ble_eq_true rfl, Nat.le_of_ble_eq_true rfl⟩) (va_recv hK hP (ci := 5) (q0 := 0) rfl rfl) hP hK hD hN hS hA rfl hl.1 rfl (Nat.le_of_ble_eq_true rfl) dX5_choosePhases_75 ⟨Nat.le_refl _, Nat.le_refl _⟩ (fun H locs hP hD hS => ?_)
      have hP : va_P E.1 vwCl (wM E A G (changePh ((z 16) + 1) (upd z 29 x_1)) a t r h) H := hP
      have hD : va_D _ (wM E A G (changePh ((z 16) + 1) (upd z 29 x_1)) a t r h) := hD
      exact gretv hx hb hr hlocks hP hD hS (by simp only [choose, ← fx1, if_pos c_68]) dX5_choosePhases_78
  refine lv_icmp_le (tgt := 58) hx hb dX5_choosePhases_32 (by decide) (fun c_32 => ?_) (fun c_32 => ?_)
  · refine lv_iconst (v := 0) hx hb dX5_choosePhases_58 (by decide) ?_
    refine W.eq (g2 := F0 m 59 ls [.int x_1, .int 29, .ref (A 1)]) (by rw [ex_1]; simp only [if_pos c_32]) ?_
    exact J_32 s.heap [] ls (hP) (hD) hS (lv_sub hl [0, 1, 2] rfl)
  · refine lv_iload_n hx hb dX5_choosePhases_35 rfl (lv_at hl 1 rfl) ?_
    refine lv_aload_n hx hb dX5_choosePhases_36 rfl (lv_at hl 2 rfl) ?_
    refine va_get (D := E.1) (ci := 5) (v := .ref (A 1)) (C := RX5) (T := TX5) (N := 15) hx hb hts hiX5 hown hK hP 0 rfl rfl 1 (by decide) hf7 (fun _ h9 => h9) rfl dX5_choosePhases_37 ?_
    refine lv_bipush (v := 15) hx hb dX5_choosePhases_40 (by decide) ?_
    refine gald (x := z 15) hx hb hK hP 1 rfl 15 (rfl) (by decide) (by decide) rfl dX5_choosePhases_42 ?_
    refine lv_icmp_ge (tgt := 58) hx hb dX5_choosePhases_43 (by decide) (fun c_43 => ?_) (fun c_43 => ?_)
    · refine lv_iconst (v := 0) hx hb dX5_choosePhases_58 (by decide) ?_
      refine W.eq (g2 := F0 m 59 ls [.int x_1, .int 29, .ref (A 1)]) (by rw [ex_1]; simp only [if_neg c_32, if_pos c_43]) ?_
      exact J_32 s.heap [] ls (hP) (hD) hS (lv_sub hl [0, 1, 2] rfl)
    · refine lv_aload_n hx hb dX5_choosePhases_46 rfl (lv_at hl 2 rfl) ?_
      refine va_get (D := E.1) (ci := 5) (v := .ref (A 1)) (C := RX5) (T := TX5) (N := 15) hx hb hts hiX5 hown hK hP 0 rfl rfl 1 (by decide) hf7 (fun _ h9 => h9) rfl dX5_choosePhases_47 ?_
      refine lv_bipush (v := 29) hx hb dX5_choosePhases_50 (by decide) ?_
      refine gald (x := z 29) hx hb hK hP 1 rfl 29 (rfl) (by decide) (by decide) rfl dX5_choosePhases_52 ?_
      refine lv_iconst (v := 1) hx hb dX5_choosePhases_53 (by decide) ?_
      refine lv_iadd hx hb dX5_choosePhases_54 ?_
      refine lv_goto (tgt := 59) hx hb dX5_choosePhases_55 (by decide) ?_
      refine W.eq (g2 := F0 m 59 ls [.int x_1, .int 29, .ref (A 1)]) (by rw [ex_1]; simp only [if_neg c_32, if_neg c_43]) ?_
      exact J_32 s.heap [] ls (hP) (hD) hS (lv_sub hl [0, 1, 2] rfl)

set_option maxHeartbeats 4000000 in
set_option maxRecDepth 100000 in
theorem c_X5_beginPulse (l : Launch) (E : EE) (A : Nat → Nat) (G z a t r : Nat → Int32) (h : Int64) (k0 : Nat) (v1 : Int32) (hz : zOK z) (hk : k0 < 4) : GM l yX5_beginPulse wsX5_beginPulse 2 44 E (wM E A G z a t r h) [.ref (A 0), .int (nI k0), .int v1] (wM E A G (beginP k0 v1 z) a t r h) (none) := by
  intro sz
  refine Met.ofW (cc := cX5_beginPulse) (maxL := 6) (ret := none) (by decide) rfl ?_
  intro p e s m args below meth c s₁ B hml hv
  obtain ⟨rfl, rfl, hP, hK, hD0, hN⟩ := hv
  have hx := B.exec
  have hb := B.bytes
  have hr := B.returns
  have hts := atoms_spec (ws := wsX5_beginPulse) B.pre
  have hown : s.vm.findClass RX5 = some m.cls := findClass_of_methodNamed B.named
  have hlocks := B.notSynchronized
  have hD := hD0.self (sz := s.heap.size)
  have hA : ∀ q : Nat, s.heap.size ≤ q → va_A (wM E A G z a t r h) s.heap.size q := fun q h => Or.inr h
  have hS : va_S (va_A (wM E A G z a t r h) s.heap.size) s.heap s.heap [] := va_S.rf
  have hl := lv_entry ([.ref (A 0), .int (nI k0), .int v1]) (n := 6) (Nat.le_of_ble_eq_true rfl)
  rw [lg_entry_eq]
  generalize (lg_sl ([.ref (A 0), .int (nI k0), .int v1]) ++ List.replicate (6 - (lg_sl ([.ref (A 0), .int (nI k0), .int v1])).length) Slot.unset).toArray = ls at hl ⊢
  have hl : lv_has ls 6 [(0, .ref (A 0)), (1, .int (nI k0)), (2, .int v1)] := hl
  have hf7 := hts (.fieldLink RX5 7 "PhaseConverterModel" "z" "[I") (List.mem_of_getElem? (i := 1) rfl)
  have hiX5 : ∀ w ∈ u_ws RX5 TX5 15, w ∈ wsX5_beginPulse := memIn [13, 14, 15, 16, 17, 18, 19, 20, 21, 22, 23, 24, 25, 26, 27] rfl
  refine lv_aload_n hx hb dX5_beginPulse_0 rfl (lv_at hl 0 rfl) ?_
  refine va_get (D := E.1) (ci := 5) (v := .ref (A 1)) (C := RX5) (T := TX5) (N := 15) hx hb hts hiX5 hown hK hP 0 rfl rfl 1 (by decide) hf7 (fun _ h9 => h9) rfl dX5_beginPulse_1 ?_
  refine lv_bipush (v := 17) hx hb dX5_beginPulse_4 (by decide) ?_
  refine gald (x := z 17) hx hb hK hP 1 rfl 17 (rfl) (by decide) (by decide) rfl dX5_beginPulse_6 ?_
  refine lv_aload_n hx hb dX5_beginPulse_7 rfl (lv_at hl 0 rfl) ?_
  refine va_get (D := E.1) (ci := 5) (v := .ref (A 1)) (C := RX5) (T := TX5) (N := 15) hx hb hts hiX5 hown hK hP 0 rfl rfl 1 (by decide) hf7 (fun _ h9 => h9) rfl dX5_beginPulse_8 ?_
  refine lv_bipush (v := 18) hx hb dX5_beginPulse_11 (by decide) ?_
  refine gald (x := z 18) hx hb hK hP 1 rfl 18 (rfl) (by decide) (by decide) rfl dX5_beginPulse_13 ?_
  refine lv_icmp_lt (tgt := 76) hx hb dX5_beginPulse_14 (by decide) (fun c_14 => ?_) (fun c_14 => ?_)
  · refine lv_aload_n hx hb dX5_beginPulse_76 rfl (lv_at hl 0 rfl) ?_
    refine va_get (D := E.1) (ci := 5) (v := .ref (A 1)) (C := RX5) (T := TX5) (N := 15) hx hb hts hiX5 hown hK hP 0 rfl rfl 1 (by decide) hf7 (fun _ h9 => h9) rfl dX5_beginPulse_77 ?_
    refine lv_iload_n hx hb dX5_beginPulse_80 rfl (lv_at hl 1 rfl) ?_
    refine lv_iconst (v := 0) hx hb dX5_beginPulse_81 (by decide) ?_
    refine gsPi (As := [.int (nI k0), .int 0]) (rest := [.ref (A 1)]) ⟨hx, hb, hml, hown, hts⟩ (c_X5_at l E k0 0) (va_cwS 2 hts gX5_beginPulse_X5_at rfl rfl rfl (by decide +kernel) ⟨Nat.le_of_ble_eq_true rfl, Nat.le_of_ble_eq_true rfl⟩) hP hK hD hN hS hA rfl hl.1 rfl (Nat.le_of_ble_eq_true rfl) dX5_beginPulse_82 ⟨Nat.le_refl _, Nat.le_refl _⟩ (fun H locs hP hD hS => ?_)
    refine gald (x := z (35 + 7 * k0 + 0)) hx hb hK hP 1 rfl (35 + 7 * k0 + 0) (rfl) (by omega) (by decide) rfl dX5_beginPulse_85 ?_
    refine lv_aload_n hx hb dX5_beginPulse_86 rfl (lv_at hl 0 rfl) ?_
    refine lv_aload_n hx hb dX5_beginPulse_87 rfl (lv_at hl 0 rfl) ?_
    refine va_get (D := E.1) (ci := 5) (v := .ref (A 1)) (C := RX5) (T := TX5) (N := 15) hx hb hts hiX5 hown hK hP 0 rfl rfl 1 (by decide) hf7 (fun _ h9 => h9) rfl dX5_beginPulse_88 ?_
    refine lv_bipush (v := 16) hx hb dX5_beginPulse_91 (by decide) ?_
    refine gald (x := z 16) hx hb hK hP 1 rfl 16 (rfl) (by decide) (by decide) rfl dX5_beginPulse_93 ?_
    refine W.eq (g2 := F0 m 94 ls [.int (nI (mOf z)), .ref (A 0), .int (z (35 + 7 * k0 + 0))]) (by rw [hz.2.2.2.1]) ?_
    refine gv0i (As := [.int (nI (mOf z))]) (rest := [.int (z (35 + 7 * k0 + 0))]) ⟨hx, hb, hml, hown, hts⟩ (c_X5_sum l E A G z a t r h (mOf z) (by have := hz.2.2.1; have := hz.2.2.2.2.2.1; omega)) (cwV 1 hts gX5_beginPulse_X5_sum rfl rfl rfl (by decide +kernel) ⟨Nat.le_of_ble_eq_true rfl, Nat.le_of_ble_eq_true rfl⟩) (va_recv hK hP (ci := 5) (q0 := 0) rfl rfl) hP hK hD hN hS hA rfl hl.1 rfl (Nat.le_of_ble_eq_true rfl) dX5_beginPulse_94 ⟨Nat.le_refl _, Nat.le_refl _⟩ (fun H locs hP hD hS => ?_)
    refine lv_aload_n hx hb dX5_beginPulse_97 rfl (lv_at hl 0 rfl) ?_
    refine va_get (D := E.1) (ci := 5) (v := .ref (A 1)) (C := RX5) (T := TX5) (N := 15) hx hb hts hiX5 hown hK hP 0 rfl rfl 1 (by decide) hf7 (fun _ h9 => h9) rfl dX5_beginPulse_98 ?_
    refine lv_bipush (v := 16) hx hb dX5_beginPulse_101 (by decide) ?_
    refine gald (x := z 16) hx hb hK hP 1 rfl 16 (rfl) (by decide) (by decide) rfl dX5_beginPulse_103 ?_
    refine lv_idiv hx hb dX5_beginPulse_104 (zOK_m0 hz) ?_
    refine lv_isub hx hb dX5_beginPulse_105 ?_
    refine lv_istore_n (lv' := [(3, .int ((z (35 + 7 * k0 + 0)) - ((sumC (mOf z) z) / (z 16)))), (0, .ref (A 0)), (1, .int (nI k0)), (2, .int v1)]) hx hb dX5_beginPulse_106 rfl hl (by decide) rfl (fun ls hl => ?_)
    refine lv_aload_n hx hb dX5_beginPulse_107 rfl (lv_at hl 1 rfl) ?_
    refine va_get (D := E.1) (ci := 5) (v := .ref (A 1)) (C := RX5) (T := TX5) (N := 15) hx hb hts hiX5 hown hK hP 0 rfl rfl 1 (by decide) hf7 (fun _ h9 => h9) rfl dX5_beginPulse_108 ?_
    refine lv_bipush (v := 21) hx hb dX5_beginPulse_111 (by decide) ?_
    refine gald (x := z 21) hx hb hK hP 1 rfl 21 (rfl) (by decide) (by decide) rfl dX5_beginPulse_113 ?_
    refine lv_iload_n hx hb dX5_beginPulse_114 rfl (lv_at hl 0 rfl) ?_
    refine lv_aload_n hx hb dX5_beginPulse_115 rfl (lv_at hl 1 rfl) ?_
    refine va_get (D := E.1) (ci := 5) (v := .ref (A 1)) (C := RX5) (T := TX5) (N := 15) hx hb hts hiX5 hown hK hP 0 rfl rfl 1 (by decide) hf7 (fun _ h9 => h9) rfl dX5_beginPulse_116 ?_
    refine lv_bipush (v := 14) hx hb dX5_beginPulse_119 (by decide) ?_
    refine gald (x := z 14) hx hb hK hP 1 rfl 14 (rfl) (by decide) (by decide) rfl dX5_beginPulse_121 ?_
    refine lv_imul hx hb dX5_beginPulse_122 ?_
    refine lv_sipush (v := 1000) hx hb dX5_beginPulse_123 (by decide) ?_
    refine lv_idiv hx hb dX5_beginPulse_126 (by decide) ?_
    refine lv_isub hx hb dX5_beginPulse_127 ?_
    refine lv_iconst (v := 0) hx hb dX5_beginPulse_128 (by decide) ?_
    refine lv_sipush (v := 900) hx hb dX5_beginPulse_129 (by decide) ?_
    refine gsPi (As := [.int ((z 21) - ((((z (35 + 7 * k0 + 0)) - ((sumC (mOf z) z) / (z 16))) * (z 14)) / 1000)), .int 0, .int 900]) (rest := []) ⟨hx, hb, hml, hown, hts⟩ (c_X5_clamped l E ((z 21) - ((((z (35 + 7 * k0 + 0)) - ((sumC (mOf z) z) / (z 16))) * (z 14)) / 1000)) 0 900) (va_cwS 3 hts gX5_beginPulse_X5_clamped rfl rfl rfl (by decide +kernel) ⟨Nat.le_of_ble_eq_true rfl, Nat.le_of_ble_eq_true rfl⟩) hP hK hD hN hS hA rfl hl.1 rfl (Nat.le_of_ble_eq_true rfl) dX5_beginPulse_132 ⟨Nat.le_refl _, Nat.le_refl _⟩ (fun H locs hP hD hS => ?_)
    refine lv_istore (lv' := [(4, .int (clampI ((z 21) - ((((z (35 + 7 * k0 + 0)) - ((sumC (mOf z) z) / (z 16))) * (z 14)) / 1000)) 0 900)), (3, .int ((z (35 + 7 * k0 + 0)) - ((sumC (mOf z) z) / (z 16)))), (0, .ref (A 0)), (1, .int (nI k0)), (2, .int v1)]) hx hb dX5_beginPulse_135 hl (by decide) rfl (fun ls hl => ?_)
    refine lv_aload_n hx hb dX5_beginPulse_137 rfl (lv_at hl 2 rfl) ?_
    refine va_get (D := E.1) (ci := 5) (v := .ref (A 1)) (C := RX5) (T := TX5) (N := 15) hx hb hts hiX5 hown hK hP 0 rfl rfl 1 (by decide) hf7 (fun _ h9 => h9) rfl dX5_beginPulse_138 ?_
    refine lv_iload_n hx hb dX5_beginPulse_141 rfl (lv_at hl 3 rfl) ?_
    refine lv_iconst (v := 2) hx hb dX5_beginPulse_142 (by decide) ?_
    refine gsPi (As := [.int (nI k0), .int 2]) (rest := [.ref (A 1)]) ⟨hx, hb, hml, hown, hts⟩ (c_X5_at l E k0 2) (va_cwS 2 hts gX5_beginPulse_X5_at rfl rfl rfl (by decide +kernel) ⟨Nat.le_of_ble_eq_true rfl, Nat.le_of_ble_eq_true rfl⟩) hP hK hD hN hS hA rfl hl.1 rfl (Nat.le_of_ble_eq_true rfl) dX5_beginPulse_143 ⟨Nat.le_refl _, Nat.le_refl _⟩ (fun H locs hP hD hS => ?_)
    refine gald (x := z (35 + 7 * k0 + 2)) hx hb hK hP 1 rfl (35 + 7 * k0 + 2) (rfl) (by omega) (by decide) rfl dX5_beginPulse_146 ?_
    refine lv_bipush (v := 20) hx hb dX5_beginPulse_147 (by decide) ?_
    refine lv_iload hx hb dX5_beginPulse_149 (lv_at hl 0 rfl) ?_
    refine lv_imul hx hb dX5_beginPulse_151 ?_
    refine lv_iadd hx hb dX5_beginPulse_152 ?_
    refine lv_istore (lv' := [(5, .int ((z (35 + 7 * k0 + 2)) + (20 * (clampI ((z 21) - ((((z (35 + 7 * k0 + 0)) - ((sumC (mOf z) z) / (z 16))) * (z 14)) / 1000)) 0 900)))), (4, .int (clampI ((z 21) - ((((z (35 + 7 * k0 + 0)) - ((sumC (mOf z) z) / (z 16))) * (z 14)) / 1000)) 0 900)), (3, .int ((z (35 + 7 * k0 + 0)) - ((sumC (mOf z) z) / (z 16)))), (0, .ref (A 0)), (1, .int (nI k0)), (2, .int v1)]) hx hb dX5_beginPulse_153 hl (by decide) rfl (fun ls hl => ?_)
    refine lv_aload_n hx hb dX5_beginPulse_155 rfl (lv_at hl 3 rfl) ?_
    refine va_get (D := E.1) (ci := 5) (v := .ref (A 1)) (C := RX5) (T := TX5) (N := 15) hx hb hts hiX5 hown hK hP 0 rfl rfl 1 (by decide) hf7 (fun _ h9 => h9) rfl dX5_beginPulse_156 ?_
    refine lv_iload_n hx hb dX5_beginPulse_159 rfl (lv_at hl 4 rfl) ?_
    refine lv_iconst (v := 1) hx hb dX5_beginPulse_160 (by decide) ?_
    refine gsPi (As := [.int (nI k0), .int 1]) (rest := [.ref (A 1)]) ⟨hx, hb, hml, hown, hts⟩ (c_X5_at l E k0 1) (va_cwS 2 hts gX5_beginPulse_X5_at rfl rfl rfl (by decide +kernel) ⟨Nat.le_of_ble_eq_true rfl, Nat.le_of_ble_eq_true rfl⟩) hP hK hD hN hS hA rfl hl.1 rfl (Nat.le_of_ble_eq_true rfl) dX5_beginPulse_161 ⟨Nat.le_refl _, Nat.le_refl _⟩ (fun H locs hP hD hS => ?_)
    refine lv_iload hx hb dX5_beginPulse_164 (lv_at hl 0 rfl) ?_
    refine lv_sipush (v := 1000) hx hb dX5_beginPulse_166 (by decide) ?_
    refine lv_idiv hx hb dX5_beginPulse_169 (by decide) ?_
    refine gast hx hb hK hP hD hS 1 rfl (35 + 7 * k0 + 1) (rfl) (by omega) (by decide) dX5_beginPulse_170 (fun H locs hP hD hS => ?_)
    have hP : va_P E.1 vwCl (wM E A G (upd z (35 + 7 * k0 + 1) (((z (35 + 7 * k0 + 2)) + (20 * (clampI ((z 21) - ((((z (35 + 7 * k0 + 0)) - ((sumC (mOf z) z) / (z 16))) * (z 14)) / 1000)) 0 900))) / 1000)) a t r h) H := hP
    have hD : va_D _ (wM E A G (upd z (35 + 7 * k0 + 1) (((z (35 + 7 * k0 + 2)) + (20 * (clampI ((z 21) - ((((z (35 + 7 * k0 + 0)) - ((sumC (mOf z) z) / (z 16))) * (z 14)) / 1000)) 0 900))) / 1000)) a t r h) := hD
    refine lv_aload_n hx hb dX5_beginPulse_171 rfl (lv_at hl 3 rfl) ?_
    refine va_get (D := E.1) (ci := 5) (v := .ref (A 1)) (C := RX5) (T := TX5) (N := 15) hx hb hts hiX5 hown hK hP 0 rfl rfl 1 (by decide) hf7 (fun _ h9 => h9) rfl dX5_beginPulse_172 ?_
    refine lv_iload_n hx hb dX5_beginPulse_175 rfl (lv_at hl 4 rfl) ?_
    refine lv_iconst (v := 2) hx hb dX5_beginPulse_176 (by decide) ?_
    refine gsPi (As := [.int (nI k0), .int 2]) (rest := [.ref (A 1)]) ⟨hx, hb, hml, hown, hts⟩ (c_X5_at l E k0 2) (va_cwS 2 hts gX5_beginPulse_X5_at rfl rfl rfl (by decide +kernel) ⟨Nat.le_of_ble_eq_true rfl, Nat.le_of_ble_eq_true rfl⟩) hP hK hD hN hS hA rfl hl.1 rfl (Nat.le_of_ble_eq_true rfl) dX5_beginPulse_177 ⟨Nat.le_refl _, Nat.le_refl _⟩ (fun H locs hP hD hS => ?_)
    refine lv_iload hx hb dX5_beginPulse_180 (lv_at hl 0 rfl) ?_
    refine lv_sipush (v := 1000) hx hb dX5_beginPulse_182 (by decide) ?_
    refine lv_irem hx hb dX5_beginPulse_185 (by decide) ?_
    refine gast hx hb hK hP hD hS 1 rfl (35 + 7 * k0 + 2) (rfl) (by omega) (by decide) dX5_beginPulse_186 (fun H locs hP hD hS => ?_)
    have hP : va_P E.1 vwCl (wM E A G (upd (upd z (35 + 7 * k0 + 1) (((z (35 + 7 * k0 + 2)) + (20 * (clampI ((z 21) - ((((z (35 + 7 * k0 + 0)) - ((sumC (mOf z) z) / (z 16))) * (z 14)) / 1000)) 0 900))) / 1000)) (35 + 7 * k0 + 2) (((z (35 + 7 * k0 + 2)) + (20 * (clampI ((z 21) - ((((z (35 + 7 * k0 + 0)) - ((sumC (mOf z) z) / (z 16))) * (z 14)) / 1000)) 0 900))) - ((z (35 + 7 * k0 + 2)) + (20 * (clampI ((z 21) - ((((z (35 + 7 * k0 + 0)) - ((sumC (mOf z) z) / (z 16))) * (z 14)) / 1000)) 0 900))) / 1000 * 1000)) a t r h) H := hP
    have hD : va_D _ (wM E A G (upd (upd z (35 + 7 * k0 + 1) (((z (35 + 7 * k0 + 2)) + (20 * (clampI ((z 21) - ((((z (35 + 7 * k0 + 0)) - ((sumC (mOf z) z) / (z 16))) * (z 14)) / 1000)) 0 900))) / 1000)) (35 + 7 * k0 + 2) (((z (35 + 7 * k0 + 2)) + (20 * (clampI ((z 21) - ((((z (35 + 7 * k0 + 0)) - ((sumC (mOf z) z) / (z 16))) * (z 14)) / 1000)) 0 900))) - ((z (35 + 7 * k0 + 2)) + (20 * (clampI ((z 21) - ((((z (35 + 7 * k0 + 0)) - ((sumC (mOf z) z) / (z 16))) * (z 14)) / 1000)) 0 900))) / 1000 * 1000)) a t r h) := hD
    refine lv_aload_n hx hb dX5_beginPulse_187 rfl (lv_at hl 3 rfl) ?_
    refine va_get (D := E.1) (ci := 5) (v := .ref (A 1)) (C := RX5) (T := TX5) (N := 15) hx hb hts hiX5 hown hK hP 0 rfl rfl 1 (by decide) hf7 (fun _ h9 => h9) rfl dX5_beginPulse_188 ?_
    refine lv_iload_n hx hb dX5_beginPulse_191 rfl (lv_at hl 4 rfl) ?_
    refine lv_bipush (v := 6) hx hb dX5_beginPulse_192 (by decide) ?_
    refine gsPi (As := [.int (nI k0), .int 6]) (rest := [.ref (A 1)]) ⟨hx, hb, hml, hown, hts⟩ (c_X5_at l E k0 6) (va_cwS 2 hts gX5_beginPulse_X5_at rfl rfl rfl (by decide +kernel) ⟨Nat.le_of_ble_eq_true rfl, Nat.le_of_ble_eq_true rfl⟩) hP hK hD hN hS hA rfl hl.1 rfl (Nat.le_of_ble_eq_true rfl) dX5_beginPulse_194 ⟨Nat.le_refl _, Nat.le_refl _⟩ (fun H locs hP hD hS => ?_)
    refine lv_dup2_11 hx hb dX5_beginPulse_197 rfl rfl ?_
    refine gald (x := z (35 + 7 * k0 + 6)) hx hb hK hP 1 rfl (35 + 7 * k0 + 6) (rfl) (by omega) (by decide) ((pk_un (by omega)).trans ((pk_un (by omega)).trans rfl)) dX5_beginPulse_198 ?_
    refine lv_iconst (v := 1) hx hb dX5_beginPulse_199 (by decide) ?_
    refine lv_iadd hx hb dX5_beginPulse_200 ?_
    refine gast hx hb hK hP hD hS 1 rfl (35 + 7 * k0 + 6) (rfl) (by omega) (by decide) dX5_beginPulse_201 (fun H locs hP hD hS => ?_)
    have hP : va_P E.1 vwCl (wM E A G (upd (upd (upd z (35 + 7 * k0 + 1) (((z (35 + 7 * k0 + 2)) + (20 * (clampI ((z 21) - ((((z (35 + 7 * k0 + 0)) - ((sumC (mOf z) z) / (z 16))) * (z 14)) / 1000)) 0 900))) / 1000)) (35 + 7 * k0 + 2) (((z (35 + 7 * k0 + 2)) + (20 * (clampI ((z 21) - ((((z (35 + 7 * k0 + 0)) - ((sumC (mOf z) z) / (z 16))) * (z 14)) / 1000)) 0 900))) - ((z (35 + 7 * k0 + 2)) + (20 * (clampI ((z 21) - ((((z (35 + 7 * k0 + 0)) - ((sumC (mOf z) z) / (z 16))) * (z 14)) / 1000)) 0 900))) / 1000 * 1000)) (35 + 7 * k0 + 6) ((z (35 + 7 * k0 + 6)) + 1)) a t r h) H := hP
    have hD : va_D _ (wM E A G (upd (upd (upd z (35 + 7 * k0 + 1) (((z (35 + 7 * k0 + 2)) + (20 * (clampI ((z 21) - ((((z (35 + 7 * k0 + 0)) - ((sumC (mOf z) z) / (z 16))) * (z 14)) / 1000)) 0 900))) / 1000)) (35 + 7 * k0 + 2) (((z (35 + 7 * k0 + 2)) + (20 * (clampI ((z 21) - ((((z (35 + 7 * k0 + 0)) - ((sumC (mOf z) z) / (z 16))) * (z 14)) / 1000)) 0 900))) - ((z (35 + 7 * k0 + 2)) + (20 * (clampI ((z 21) - ((((z (35 + 7 * k0 + 0)) - ((sumC (mOf z) z) / (z 16))) * (z 14)) / 1000)) 0 900))) / 1000 * 1000)) (35 + 7 * k0 + 6) ((z (35 + 7 * k0 + 6)) + 1)) a t r h) := hD
    exact gretv hx hb hr hlocks hP hD hS (by simp only [beginP, if_pos c_14]; rfl) dX5_beginPulse_202
  · refine lv_aload_n hx hb dX5_beginPulse_17 rfl (lv_at hl 0 rfl) ?_
    refine va_get (D := E.1) (ci := 5) (v := .ref (A 1)) (C := RX5) (T := TX5) (N := 15) hx hb hts hiX5 hown hK hP 0 rfl rfl 1 (by decide) hf7 (fun _ h9 => h9) rfl dX5_beginPulse_18 ?_
    refine lv_bipush (v := 20) hx hb dX5_beginPulse_21 (by decide) ?_
    refine gald (x := z 20) hx hb hK hP 1 rfl 20 (rfl) (by decide) (by decide) rfl dX5_beginPulse_23 ?_
    refine lv_iconst (v := 1) hx hb dX5_beginPulse_24 (by decide) ?_
    refine lv_icmp_eq (tgt := 39) hx hb dX5_beginPulse_25 (by decide) (fun c_25 => ?_) (fun c_25 => ?_)
    · refine lv_aload_n hx hb dX5_beginPulse_39 rfl (lv_at hl 0 rfl) ?_
      refine va_get (D := E.1) (ci := 5) (v := .ref (A 1)) (C := RX5) (T := TX5) (N := 15) hx hb hts hiX5 hown hK hP 0 rfl rfl 1 (by decide) hf7 (fun _ h9 => h9) rfl dX5_beginPulse_40 ?_
      refine lv_iload_n hx hb dX5_beginPulse_43 rfl (lv_at hl 1 rfl) ?_
      refine lv_iconst (v := 1) hx hb dX5_beginPulse_44 (by decide) ?_
      refine gsPi (As := [.int (nI k0), .int 1]) (rest := [.ref (A 1)]) ⟨hx, hb, hml, hown, hts⟩ (c_X5_at l E k0 1) (va_cwS 2 hts gX5_beginPulse_X5_at rfl rfl rfl (by decide +kernel) ⟨Nat.le_of_ble_eq_true rfl, Nat.le_of_ble_eq_true rfl⟩) hP hK hD hN hS hA rfl hl.1 rfl (Nat.le_of_ble_eq_true rfl) dX5_beginPulse_45 ⟨Nat.le_refl _, Nat.le_refl _⟩ (fun H locs hP hD hS => ?_)
      refine lv_iconst (v := 0) hx hb dX5_beginPulse_48 (by decide) ?_
      refine gast hx hb hK hP hD hS 1 rfl (35 + 7 * k0 + 1) (rfl) (by omega) (by decide) dX5_beginPulse_49 (fun H locs hP hD hS => ?_)
      have hP : va_P E.1 vwCl (wM E A G (upd z (35 + 7 * k0 + 1) 0) a t r h) H := hP
      have hD : va_D _ (wM E A G (upd z (35 + 7 * k0 + 1) 0) a t r h) := hD
      refine lv_aload_n hx hb dX5_beginPulse_50 rfl (lv_at hl 0 rfl) ?_
      refine va_get (D := E.1) (ci := 5) (v := .ref (A 1)) (C := RX5) (T := TX5) (N := 15) hx hb hts hiX5 hown hK hP 0 rfl rfl 1 (by decide) hf7 (fun _ h9 => h9) rfl dX5_beginPulse_51 ?_
      refine lv_iload_n hx hb dX5_beginPulse_54 rfl (lv_at hl 1 rfl) ?_
      refine lv_iconst (v := 5) hx hb dX5_beginPulse_55 (by decide) ?_
      refine gsPi (As := [.int (nI k0), .int 5]) (rest := [.ref (A 1)]) ⟨hx, hb, hml, hown, hts⟩ (c_X5_at l E k0 5) (va_cwS 2 hts gX5_beginPulse_X5_at rfl rfl rfl (by decide +kernel) ⟨Nat.le_of_ble_eq_true rfl, Nat.le_of_ble_eq_true rfl⟩) hP hK hD hN hS hA rfl hl.1 rfl (Nat.le_of_ble_eq_true rfl) dX5_beginPulse_56 ⟨Nat.le_refl _, Nat.le_refl _⟩ (fun H locs hP hD hS => ?_)
      refine lv_dup2_11 hx hb dX5_beginPulse_59 rfl rfl ?_
      refine gald (x := z (35 + 7 * k0 + 5)) hx hb hK hP 1 rfl (35 + 7 * k0 + 5) (rfl) (by omega) (by decide) ((pk_un (by omega)).trans rfl) dX5_beginPulse_60 ?_
      refine lv_iconst (v := 1) hx hb dX5_beginPulse_61 (by decide) ?_
      refine lv_iadd hx hb dX5_beginPulse_62 ?_
      refine gast hx hb hK hP hD hS 1 rfl (35 + 7 * k0 + 5) (rfl) (by omega) (by decide) dX5_beginPulse_63 (fun H locs hP hD hS => ?_)
      have hP : va_P E.1 vwCl (wM E A G (upd (upd z (35 + 7 * k0 + 1) 0) (35 + 7 * k0 + 5) ((z (35 + 7 * k0 + 5)) + 1)) a t r h) H := hP
      have hD : va_D _ (wM E A G (upd (upd z (35 + 7 * k0 + 1) 0) (35 + 7 * k0 + 5) ((z (35 + 7 * k0 + 5)) + 1)) a t r h) := hD
      refine lv_aload_n hx hb dX5_beginPulse_64 rfl (lv_at hl 0 rfl) ?_
      refine va_get (D := E.1) (ci := 5) (v := .ref (A 1)) (C := RX5) (T := TX5) (N := 15) hx hb hts hiX5 hown hK hP 0 rfl rfl 1 (by decide) hf7 (fun _ h9 => h9) rfl dX5_beginPulse_65 ?_
      refine lv_bipush (v := 26) hx hb dX5_beginPulse_68 (by decide) ?_
      refine lv_dup2_11 hx hb dX5_beginPulse_70 rfl rfl ?_
      refine gald (x := z 26) hx hb hK hP 1 rfl 26 (rfl) (by decide) (by decide) ((pk_un (by omega)).trans ((pk_un (by omega)).trans rfl)) dX5_beginPulse_71 ?_
      refine lv_iconst (v := 1) hx hb dX5_beginPulse_72 (by decide) ?_
      refine lv_iadd hx hb dX5_beginPulse_73 ?_
      refine gast hx hb hK hP hD hS 1 rfl 26 (rfl) (by decide) (by decide) dX5_beginPulse_74 (fun H locs hP hD hS => ?_)
      have hP : va_P E.1 vwCl (wM E A G (upd (upd (upd z (35 + 7 * k0 + 1) 0) (35 + 7 * k0 + 5) ((z (35 + 7 * k0 + 5)) + 1)) 26 ((z 26) + 1)) a t r h) H := hP
      have hD : va_D _ (wM E A G (upd (upd (upd z (35 + 7 * k0 + 1) 0) (35 + 7 * k0 + 5) ((z (35 + 7 * k0 + 5)) + 1)) 26 ((z 26) + 1)) a t r h) := hD
      exact gretv hx hb hr hlocks hP hD hS (by simp only [beginP, if_neg c_14, if_pos c_25]; rfl) dX5_beginPulse_75
    · refine lv_iload_n hx hb dX5_beginPulse_28 rfl (lv_at hl 2 rfl) ?_
      refine lv_aload_n hx hb dX5_beginPulse_29 rfl (lv_at hl 0 rfl) ?_
      refine va_get (D := E.1) (ci := 5) (v := .ref (A 1)) (C := RX5) (T := TX5) (N := 15) hx hb hts hiX5 hown hK hP 0 rfl rfl 1 (by decide) hf7 (fun _ h9 => h9) rfl dX5_beginPulse_30 ?_
      refine lv_bipush (v := 9) hx hb dX5_beginPulse_33 (by decide) ?_
      refine gald (x := z 9) hx hb hK hP 1 rfl 9 (rfl) (by decide) (by decide) rfl dX5_beginPulse_35 ?_
      refine lv_icmp_ge (tgt := 76) hx hb dX5_beginPulse_36 (by decide) (fun c_36 => ?_) (fun c_36 => ?_)
      · refine lv_aload_n hx hb dX5_beginPulse_76 rfl (lv_at hl 0 rfl) ?_
        refine va_get (D := E.1) (ci := 5) (v := .ref (A 1)) (C := RX5) (T := TX5) (N := 15) hx hb hts hiX5 hown hK hP 0 rfl rfl 1 (by decide) hf7 (fun _ h9 => h9) rfl dX5_beginPulse_77 ?_
        refine lv_iload_n hx hb dX5_beginPulse_80 rfl (lv_at hl 1 rfl) ?_
        refine lv_iconst (v := 0) hx hb dX5_beginPulse_81 (by decide) ?_
        refine gsPi (As := [.int (nI k0), .int 0]) (rest := [.ref (A 1)]) ⟨hx, hb, hml, hown, hts⟩ (c_X5_at l E k0 0) (va_cwS 2 hts gX5_beginPulse_X5_at rfl rfl rfl (by decide +kernel) ⟨Nat.le_of_ble_eq_true rfl, Nat.le_of_ble_eq_true rfl⟩) hP hK hD hN hS hA rfl hl.1 rfl (Nat.le_of_ble_eq_true rfl) dX5_beginPulse_82 ⟨Nat.le_refl _, Nat.le_refl _⟩ (fun H locs hP hD hS => ?_)
        refine gald (x := z (35 + 7 * k0 + 0)) hx hb hK hP 1 rfl (35 + 7 * k0 + 0) (rfl) (by omega) (by decide) rfl dX5_beginPulse_85 ?_
        refine lv_aload_n hx hb dX5_beginPulse_86 rfl (lv_at hl 0 rfl) ?_
        refine lv_aload_n hx hb dX5_beginPulse_87 rfl (lv_at hl 0 rfl) ?_
        refine va_get (D := E.1) (ci := 5) (v := .ref (A 1)) (C := RX5) (T := TX5) (N := 15) hx hb hts hiX5 hown hK hP 0 rfl rfl 1 (by decide) hf7 (fun _ h9 => h9) rfl dX5_beginPulse_88 ?_
        refine lv_bipush (v := 16) hx hb dX5_beginPulse_91 (by decide) ?_
        refine gald (x := z 16) hx hb hK hP 1 rfl 16 (rfl) (by decide) (by decide) rfl dX5_beginPulse_93 ?_
        refine W.eq (g2 := F0 m 94 ls [.int (nI (mOf z)), .ref (A 0), .int (z (35 + 7 * k0 + 0))]) (by rw [hz.2.2.2.1]) ?_
        refine gv0i (As := [.int (nI (mOf z))]) (rest := [.int (z (35 + 7 * k0 + 0))]) ⟨hx, hb, hml, hown, hts⟩ (c_X5_sum l E A G z a t r h (mOf z) (by have := hz.2.2.1; have := hz.2.2.2.2.2.1; omega)) (cwV 1 hts gX5_beginPulse_X5_sum rfl rfl rfl (by decide +kernel) ⟨Nat.le_of_ble_eq_true rfl, Nat.le_of_ble_eq_true rfl⟩) (va_recv hK hP (ci := 5) (q0 := 0) rfl rfl) hP hK hD hN hS hA rfl hl.1 rfl (Nat.le_of_ble_eq_true rfl) dX5_beginPulse_94 ⟨Nat.le_refl _, Nat.le_refl _⟩ (fun H locs hP hD hS => ?_)
        refine lv_aload_n hx hb dX5_beginPulse_97 rfl (lv_at hl 0 rfl) ?_
        refine va_get (D := E.1) (ci := 5) (v := .ref (A 1)) (C := RX5) (T := TX5) (N := 15) hx hb hts hiX5 hown hK hP 0 rfl rfl 1 (by decide) hf7 (fun _ h9 => h9) rfl dX5_beginPulse_98 ?_
        refine lv_bipush (v := 16) hx hb dX5_beginPulse_101 (by decide) ?_
        refine gald (x := z 16) hx hb hK hP 1 rfl 16 (rfl) (by decide) (by decide) rfl dX5_beginPulse_103 ?_
        refine lv_idiv hx hb dX5_beginPulse_104 (zOK_m0 hz) ?_
        refine lv_isub hx hb dX5_beginPulse_105 ?_
        refine lv_istore_n (lv' := [(3, .int ((z (35 + 7 * k0 + 0)) - ((sumC (mOf z) z) / (z 16)))), (0, .ref (A 0)), (1, .int (nI k0)), (2, .int v1)]) hx hb dX5_beginPulse_106 rfl hl (by decide) rfl (fun ls hl => ?_)
        refine lv_aload_n hx hb dX5_beginPulse_107 rfl (lv_at hl 1 rfl) ?_
        refine va_get (D := E.1) (ci := 5) (v := .ref (A 1)) (C := RX5) (T := TX5) (N := 15) hx hb hts hiX5 hown hK hP 0 rfl rfl 1 (by decide) hf7 (fun _ h9 => h9) rfl dX5_beginPulse_108 ?_
        refine lv_bipush (v := 21) hx hb dX5_beginPulse_111 (by decide) ?_
        refine gald (x := z 21) hx hb hK hP 1 rfl 21 (rfl) (by decide) (by decide) rfl dX5_beginPulse_113 ?_
        refine lv_iload_n hx hb dX5_beginPulse_114 rfl (lv_at hl 0 rfl) ?_
        refine lv_aload_n hx hb dX5_beginPulse_115 rfl (lv_at hl 1 rfl) ?_
        refine va_get (D := E.1) (ci := 5) (v := .ref (A 1)) (C := RX5) (T := TX5) (N := 15) hx hb hts hiX5 hown hK hP 0 rfl rfl 1 (by decide) hf7 (fun _ h9 => h9) rfl dX5_beginPulse_116 ?_
        refine lv_bipush (v := 14) hx hb dX5_beginPulse_119 (by decide) ?_
        refine gald (x := z 14) hx hb hK hP 1 rfl 14 (rfl) (by decide) (by decide) rfl dX5_beginPulse_121 ?_
        refine lv_imul hx hb dX5_beginPulse_122 ?_
        refine lv_sipush (v := 1000) hx hb dX5_beginPulse_123 (by decide) ?_
        refine lv_idiv hx hb dX5_beginPulse_126 (by decide) ?_
        refine lv_isub hx hb dX5_beginPulse_127 ?_
        refine lv_iconst (v := 0) hx hb dX5_beginPulse_128 (by decide) ?_
        refine lv_sipush (v := 900) hx hb dX5_beginPulse_129 (by decide) ?_
        refine gsPi (As := [.int ((z 21) - ((((z (35 + 7 * k0 + 0)) - ((sumC (mOf z) z) / (z 16))) * (z 14)) / 1000)), .int 0, .int 900]) (rest := []) ⟨hx, hb, hml, hown, hts⟩ (c_X5_clamped l E ((z 21) - ((((z (35 + 7 * k0 + 0)) - ((sumC (mOf z) z) / (z 16))) * (z 14)) / 1000)) 0 900) (va_cwS 3 hts gX5_beginPulse_X5_clamped rfl rfl rfl (by decide +kernel) ⟨Nat.le_of_ble_eq_true rfl, Nat.le_of_ble_eq_true rfl⟩) hP hK hD hN hS hA rfl hl.1 rfl (Nat.le_of_ble_eq_true rfl) dX5_beginPulse_132 ⟨Nat.le_refl _, Nat.le_refl _⟩ (fun H locs hP hD hS => ?_)
        refine lv_istore (lv' := [(4, .int (clampI ((z 21) - ((((z (35 + 7 * k0 + 0)) - ((sumC (mOf z) z) / (z 16))) * (z 14)) / 1000)) 0 900)), (3, .int ((z (35 + 7 * k0 + 0)) - ((sumC (mOf z) z) / (z 16)))), (0, .ref (A 0)), (1, .int (nI k0)), (2, .int v1)]) hx hb dX5_beginPulse_135 hl (by decide) rfl (fun ls hl => ?_)
        refine lv_aload_n hx hb dX5_beginPulse_137 rfl (lv_at hl 2 rfl) ?_
        refine va_get (D := E.1) (ci := 5) (v := .ref (A 1)) (C := RX5) (T := TX5) (N := 15) hx hb hts hiX5 hown hK hP 0 rfl rfl 1 (by decide) hf7 (fun _ h9 => h9) rfl dX5_beginPulse_138 ?_
        refine lv_iload_n hx hb dX5_beginPulse_141 rfl (lv_at hl 3 rfl) ?_
        refine lv_iconst (v := 2) hx hb dX5_beginPulse_142 (by decide) ?_
        refine gsPi (As := [.int (nI k0), .int 2]) (rest := [.ref (A 1)]) ⟨hx, hb, hml, hown, hts⟩ (c_X5_at l E k0 2) (va_cwS 2 hts gX5_beginPulse_X5_at rfl rfl rfl (by decide +kernel) ⟨Nat.le_of_ble_eq_true rfl, Nat.le_of_ble_eq_true rfl⟩) hP hK hD hN hS hA rfl hl.1 rfl (Nat.le_of_ble_eq_true rfl) dX5_beginPulse_143 ⟨Nat.le_refl _, Nat.le_refl _⟩ (fun H locs hP hD hS => ?_)
        refine gald (x := z (35 + 7 * k0 + 2)) hx hb hK hP 1 rfl (35 + 7 * k0 + 2) (rfl) (by omega) (by decide) rfl dX5_beginPulse_146 ?_
        refine lv_bipush (v := 20) hx hb dX5_beginPulse_147 (by decide) ?_
        refine lv_iload hx hb dX5_beginPulse_149 (lv_at hl 0 rfl) ?_
        refine lv_imul hx hb dX5_beginPulse_151 ?_
        refine lv_iadd hx hb dX5_beginPulse_152 ?_
        refine lv_istore (lv' := [(5, .int ((z (35 + 7 * k0 + 2)) + (20 * (clampI ((z 21) - ((((z (35 + 7 * k0 + 0)) - ((sumC (mOf z) z) / (z 16))) * (z 14)) / 1000)) 0 900)))), (4, .int (clampI ((z 21) - ((((z (35 + 7 * k0 + 0)) - ((sumC (mOf z) z) / (z 16))) * (z 14)) / 1000)) 0 900)), (3, .int ((z (35 + 7 * k0 + 0)) - ((sumC (mOf z) z) / (z 16)))), (0, .ref (A 0)), (1, .int (nI k0)), (2, .int v1)]) hx hb dX5_beginPulse_153 hl (by decide) rfl (fun ls hl => ?_)
        refine lv_aload_n hx hb dX5_beginPulse_155 rfl (lv_at hl 3 rfl) ?_
        refine va_get (D := E.1) (ci := 5) (v := .ref (A 1)) (C := RX5) (T := TX5) (N := 15) hx hb hts hiX5 hown hK hP 0 rfl rfl 1 (by decide) hf7 (fun _ h9 => h9) rfl dX5_beginPulse_156 ?_
        refine lv_iload_n hx hb dX5_beginPulse_159 rfl (lv_at hl 4 rfl) ?_
        refine lv_iconst (v := 1) hx hb dX5_beginPulse_160 (by decide) ?_
        refine gsPi (As := [.int (nI k0), .int 1]) (rest := [.ref (A 1)]) ⟨hx, hb, hml, hown, hts⟩ (c_X5_at l E k0 1) (va_cwS 2 hts gX5_beginPulse_X5_at rfl rfl rfl (by decide +kernel) ⟨Nat.le_of_ble_eq_true rfl, Nat.le_of_ble_eq_true rfl⟩) hP hK hD hN hS hA rfl hl.1 rfl (Nat.le_of_ble_eq_true rfl) dX5_beginPulse_161 ⟨Nat.le_refl _, Nat.le_refl _⟩ (fun H locs hP hD hS => ?_)
        refine lv_iload hx hb dX5_beginPulse_164 (lv_at hl 0 rfl) ?_
        refine lv_sipush (v := 1000) hx hb dX5_beginPulse_166 (by decide) ?_
        refine lv_idiv hx hb dX5_beginPulse_169 (by decide) ?_
        refine gast hx hb hK hP hD hS 1 rfl (35 + 7 * k0 + 1) (rfl) (by omega) (by decide) dX5_beginPulse_170 (fun H locs hP hD hS => ?_)
        have hP : va_P E.1 vwCl (wM E A G (upd z (35 + 7 * k0 + 1) (((z (35 + 7 * k0 + 2)) + (20 * (clampI ((z 21) - ((((z (35 + 7 * k0 + 0)) - ((sumC (mOf z) z) / (z 16))) * (z 14)) / 1000)) 0 900))) / 1000)) a t r h) H := hP
        have hD : va_D _ (wM E A G (upd z (35 + 7 * k0 + 1) (((z (35 + 7 * k0 + 2)) + (20 * (clampI ((z 21) - ((((z (35 + 7 * k0 + 0)) - ((sumC (mOf z) z) / (z 16))) * (z 14)) / 1000)) 0 900))) / 1000)) a t r h) := hD
        refine lv_aload_n hx hb dX5_beginPulse_171 rfl (lv_at hl 3 rfl) ?_
        refine va_get (D := E.1) (ci := 5) (v := .ref (A 1)) (C := RX5) (T := TX5) (N := 15) hx hb hts hiX5 hown hK hP 0 rfl rfl 1 (by decide) hf7 (fun _ h9 => h9) rfl dX5_beginPulse_172 ?_
        refine lv_iload_n hx hb dX5_beginPulse_175 rfl (lv_at hl 4 rfl) ?_
        refine lv_iconst (v := 2) hx hb dX5_beginPulse_176 (by decide) ?_
        refine gsPi (As := [.int (nI k0), .int 2]) (rest := [.ref (A 1)]) ⟨hx, hb, hml, hown, hts⟩ (c_X5_at l E k0 2) (va_cwS 2 hts gX5_beginPulse_X5_at rfl rfl rfl (by decide +kernel) ⟨Nat.le_of_ble_eq_true rfl, Nat.le_of_ble_eq_true rfl⟩) hP hK hD hN hS hA rfl hl.1 rfl (Nat.le_of_ble_eq_true rfl) dX5_beginPulse_177 ⟨Nat.le_refl _, Nat.le_refl _⟩ (fun H locs hP hD hS => ?_)
        refine lv_iload hx hb dX5_beginPulse_180 (lv_at hl 0 rfl) ?_
        refine lv_sipush (v := 1000) hx hb dX5_beginPulse_182 (by decide) ?_
        refine lv_irem hx hb dX5_beginPulse_185 (by decide) ?_
        refine gast hx hb hK hP hD hS 1 rfl (35 + 7 * k0 + 2) (rfl) (by omega) (by decide) dX5_beginPulse_186 (fun H locs hP hD hS => ?_)
        have hP : va_P E.1 vwCl (wM E A G (upd (upd z (35 + 7 * k0 + 1) (((z (35 + 7 * k0 + 2)) + (20 * (clampI ((z 21) - ((((z (35 + 7 * k0 + 0)) - ((sumC (mOf z) z) / (z 16))) * (z 14)) / 1000)) 0 900))) / 1000)) (35 + 7 * k0 + 2) (((z (35 + 7 * k0 + 2)) + (20 * (clampI ((z 21) - ((((z (35 + 7 * k0 + 0)) - ((sumC (mOf z) z) / (z 16))) * (z 14)) / 1000)) 0 900))) - ((z (35 + 7 * k0 + 2)) + (20 * (clampI ((z 21) - ((((z (35 + 7 * k0 + 0)) - ((sumC (mOf z) z) / (z 16))) * (z 14)) / 1000)) 0 900))) / 1000 * 1000)) a t r h) H := hP
        have hD : va_D _ (wM E A G (upd (upd z (35 + 7 * k0 + 1) (((z (35 + 7 * k0 + 2)) + (20 * (clampI ((z 21) - ((((z (35 + 7 * k0 + 0)) - ((sumC (mOf z) z) / (z 16))) * (z 14)) / 1000)) 0 900))) / 1000)) (35 + 7 * k0 + 2) (((z (35 + 7 * k0 + 2)) + (20 * (clampI ((z 21) - ((((z (35 + 7 * k0 + 0)) - ((sumC (mOf z) z) / (z 16))) * (z 14)) / 1000)) 0 900))) - ((z (35 + 7 * k0 + 2)) + (20 * (clampI ((z 21) - ((((z (35 + 7 * k0 + 0)) - ((sumC (mOf z) z) / (z 16))) * (z 14)) / 1000)) 0 900))) / 1000 * 1000)) a t r h) := hD
        refine lv_aload_n hx hb dX5_beginPulse_187 rfl (lv_at hl 3 rfl) ?_
        refine va_get (D := E.1) (ci := 5) (v := .ref (A 1)) (C := RX5) (T := TX5) (N := 15) hx hb hts hiX5 hown hK hP 0 rfl rfl 1 (by decide) hf7 (fun _ h9 => h9) rfl dX5_beginPulse_188 ?_
        refine lv_iload_n hx hb dX5_beginPulse_191 rfl (lv_at hl 4 rfl) ?_
        refine lv_bipush (v := 6) hx hb dX5_beginPulse_192 (by decide) ?_
        refine gsPi (As := [.int (nI k0), .int 6]) (rest := [.ref (A 1)]) ⟨hx, hb, hml, hown, hts⟩ (c_X5_at l E k0 6) (va_cwS 2 hts gX5_beginPulse_X5_at rfl rfl rfl (by decide +kernel) ⟨Nat.le_of_ble_eq_true rfl, Nat.le_of_ble_eq_true rfl⟩) hP hK hD hN hS hA rfl hl.1 rfl (Nat.le_of_ble_eq_true rfl) dX5_beginPulse_194 ⟨Nat.le_refl _, Nat.le_refl _⟩ (fun H locs hP hD hS => ?_)
        refine lv_dup2_11 hx hb dX5_beginPulse_197 rfl rfl ?_
        refine gald (x := z (35 + 7 * k0 + 6)) hx hb hK hP 1 rfl (35 + 7 * k0 + 6) (rfl) (by omega) (by decide) ((pk_un (by omega)).trans ((pk_un (by omega)).trans rfl)) dX5_beginPulse_198 ?_
        refine lv_iconst (v := 1) hx hb dX5_beginPulse_199 (by decide) ?_
        refine lv_iadd hx hb dX5_beginPulse_200 ?_
        refine gast hx hb hK hP hD hS 1 rfl (35 + 7 * k0 + 6) (rfl) (by omega) (by decide) dX5_beginPulse_201 (fun H locs hP hD hS => ?_)
        have hP : va_P E.1 vwCl (wM E A G (upd (upd (upd z (35 + 7 * k0 + 1) (((z (35 + 7 * k0 + 2)) + (20 * (clampI ((z 21) - ((((z (35 + 7 * k0 + 0)) - ((sumC (mOf z) z) / (z 16))) * (z 14)) / 1000)) 0 900))) / 1000)) (35 + 7 * k0 + 2) (((z (35 + 7 * k0 + 2)) + (20 * (clampI ((z 21) - ((((z (35 + 7 * k0 + 0)) - ((sumC (mOf z) z) / (z 16))) * (z 14)) / 1000)) 0 900))) - ((z (35 + 7 * k0 + 2)) + (20 * (clampI ((z 21) - ((((z (35 + 7 * k0 + 0)) - ((sumC (mOf z) z) / (z 16))) * (z 14)) / 1000)) 0 900))) / 1000 * 1000)) (35 + 7 * k0 + 6) ((z (35 + 7 * k0 + 6)) + 1)) a t r h) H := hP
        have hD : va_D _ (wM E A G (upd (upd (upd z (35 + 7 * k0 + 1) (((z (35 + 7 * k0 + 2)) + (20 * (clampI ((z 21) - ((((z (35 + 7 * k0 + 0)) - ((sumC (mOf z) z) / (z 16))) * (z 14)) / 1000)) 0 900))) / 1000)) (35 + 7 * k0 + 2) (((z (35 + 7 * k0 + 2)) + (20 * (clampI ((z 21) - ((((z (35 + 7 * k0 + 0)) - ((sumC (mOf z) z) / (z 16))) * (z 14)) / 1000)) 0 900))) - ((z (35 + 7 * k0 + 2)) + (20 * (clampI ((z 21) - ((((z (35 + 7 * k0 + 0)) - ((sumC (mOf z) z) / (z 16))) * (z 14)) / 1000)) 0 900))) / 1000 * 1000)) (35 + 7 * k0 + 6) ((z (35 + 7 * k0 + 6)) + 1)) a t r h) := hD
        exact gretv hx hb hr hlocks hP hD hS (by simp only [beginP, if_neg c_14, if_neg c_25, if_pos c_36]; rfl) dX5_beginPulse_202
      · refine lv_aload_n hx hb dX5_beginPulse_39 rfl (lv_at hl 0 rfl) ?_
        refine va_get (D := E.1) (ci := 5) (v := .ref (A 1)) (C := RX5) (T := TX5) (N := 15) hx hb hts hiX5 hown hK hP 0 rfl rfl 1 (by decide) hf7 (fun _ h9 => h9) rfl dX5_beginPulse_40 ?_
        refine lv_iload_n hx hb dX5_beginPulse_43 rfl (lv_at hl 1 rfl) ?_
        refine lv_iconst (v := 1) hx hb dX5_beginPulse_44 (by decide) ?_
        refine gsPi (As := [.int (nI k0), .int 1]) (rest := [.ref (A 1)]) ⟨hx, hb, hml, hown, hts⟩ (c_X5_at l E k0 1) (va_cwS 2 hts gX5_beginPulse_X5_at rfl rfl rfl (by decide +kernel) ⟨Nat.le_of_ble_eq_true rfl, Nat.le_of_ble_eq_true rfl⟩) hP hK hD hN hS hA rfl hl.1 rfl (Nat.le_of_ble_eq_true rfl) dX5_beginPulse_45 ⟨Nat.le_refl _, Nat.le_refl _⟩ (fun H locs hP hD hS => ?_)
        refine lv_iconst (v := 0) hx hb dX5_beginPulse_48 (by decide) ?_
        refine gast hx hb hK hP hD hS 1 rfl (35 + 7 * k0 + 1) (rfl) (by omega) (by decide) dX5_beginPulse_49 (fun H locs hP hD hS => ?_)
        have hP : va_P E.1 vwCl (wM E A G (upd z (35 + 7 * k0 + 1) 0) a t r h) H := hP
        have hD : va_D _ (wM E A G (upd z (35 + 7 * k0 + 1) 0) a t r h) := hD
        refine lv_aload_n hx hb dX5_beginPulse_50 rfl (lv_at hl 0 rfl) ?_
        refine va_get (D := E.1) (ci := 5) (v := .ref (A 1)) (C := RX5) (T := TX5) (N := 15) hx hb hts hiX5 hown hK hP 0 rfl rfl 1 (by decide) hf7 (fun _ h9 => h9) rfl dX5_beginPulse_51 ?_
        refine lv_iload_n hx hb dX5_beginPulse_54 rfl (lv_at hl 1 rfl) ?_
        refine lv_iconst (v := 5) hx hb dX5_beginPulse_55 (by decide) ?_
        refine gsPi (As := [.int (nI k0), .int 5]) (rest := [.ref (A 1)]) ⟨hx, hb, hml, hown, hts⟩ (c_X5_at l E k0 5) (va_cwS 2 hts gX5_beginPulse_X5_at rfl rfl rfl (by decide +kernel) ⟨Nat.le_of_ble_eq_true rfl, Nat.le_of_ble_eq_true rfl⟩) hP hK hD hN hS hA rfl hl.1 rfl (Nat.le_of_ble_eq_true rfl) dX5_beginPulse_56 ⟨Nat.le_refl _, Nat.le_refl _⟩ (fun H locs hP hD hS => ?_)
        refine lv_dup2_11 hx hb dX5_beginPulse_59 rfl rfl ?_
        refine gald (x := z (35 + 7 * k0 + 5)) hx hb hK hP 1 rfl (35 + 7 * k0 + 5) (rfl) (by omega) (by decide) ((pk_un (by omega)).trans rfl) dX5_beginPulse_60 ?_
        refine lv_iconst (v := 1) hx hb dX5_beginPulse_61 (by decide) ?_
        refine lv_iadd hx hb dX5_beginPulse_62 ?_
        refine gast hx hb hK hP hD hS 1 rfl (35 + 7 * k0 + 5) (rfl) (by omega) (by decide) dX5_beginPulse_63 (fun H locs hP hD hS => ?_)
        have hP : va_P E.1 vwCl (wM E A G (upd (upd z (35 + 7 * k0 + 1) 0) (35 + 7 * k0 + 5) ((z (35 + 7 * k0 + 5)) + 1)) a t r h) H := hP
        have hD : va_D _ (wM E A G (upd (upd z (35 + 7 * k0 + 1) 0) (35 + 7 * k0 + 5) ((z (35 + 7 * k0 + 5)) + 1)) a t r h) := hD
        refine lv_aload_n hx hb dX5_beginPulse_64 rfl (lv_at hl 0 rfl) ?_
        refine va_get (D := E.1) (ci := 5) (v := .ref (A 1)) (C := RX5) (T := TX5) (N := 15) hx hb hts hiX5 hown hK hP 0 rfl rfl 1 (by decide) hf7 (fun _ h9 => h9) rfl dX5_beginPulse_65 ?_
        refine lv_bipush (v := 26) hx hb dX5_beginPulse_68 (by decide) ?_
        refine lv_dup2_11 hx hb dX5_beginPulse_70 rfl rfl ?_
        refine gald (x := z 26) hx hb hK hP 1 rfl 26 (rfl) (by decide) (by decide) ((pk_un (by omega)).trans ((pk_un (by omega)).trans rfl)) dX5_beginPulse_71 ?_
        refine lv_iconst (v := 1) hx hb dX5_beginPulse_72 (by decide) ?_
        refine lv_iadd hx hb dX5_beginPulse_73 ?_
        refine gast hx hb hK hP hD hS 1 rfl 26 (rfl) (by decide) (by decide) dX5_beginPulse_74 (fun H locs hP hD hS => ?_)
        have hP : va_P E.1 vwCl (wM E A G (upd (upd (upd z (35 + 7 * k0 + 1) 0) (35 + 7 * k0 + 5) ((z (35 + 7 * k0 + 5)) + 1)) 26 ((z 26) + 1)) a t r h) H := hP
        have hD : va_D _ (wM E A G (upd (upd (upd z (35 + 7 * k0 + 1) 0) (35 + 7 * k0 + 5) ((z (35 + 7 * k0 + 5)) + 1)) 26 ((z 26) + 1)) a t r h) := hD
        exact gretv hx hb hr hlocks hP hD hS (by simp only [beginP, if_neg c_14, if_neg c_25, if_neg c_36]; rfl) dX5_beginPulse_75

set_option maxHeartbeats 4000000 in
set_option maxRecDepth 100000 in
theorem c_X5_step (l : Launch) (E : EE) (A : Nat → Nat) (G z a t r : Nat → Int32) (h : Int64) (k0 : Nat) (hz : zOK z) (hk : k0 < 4) : GM l yX5_step wsX5_step 1 21 E (wM E A G z a t r h) [.ref (A 0), .int (nI k0)] (wM E A G (step k0 z) a t r h) (none) := by
  intro sz
  refine Met.ofW (cc := cX5_step) (maxL := 2) (ret := none) (by decide) rfl ?_
  intro p e s m args below meth c s₁ B hml hv
  obtain ⟨rfl, rfl, hP, hK, hD0, hN⟩ := hv
  have hx := B.exec
  have hb := B.bytes
  have hr := B.returns
  have hts := atoms_spec (ws := wsX5_step) B.pre
  have hown : s.vm.findClass RX5 = some m.cls := findClass_of_methodNamed B.named
  have hlocks := B.notSynchronized
  have hD := hD0.self (sz := s.heap.size)
  have hA : ∀ q : Nat, s.heap.size ≤ q → va_A (wM E A G z a t r h) s.heap.size q := fun q h => Or.inr h
  have hS : va_S (va_A (wM E A G z a t r h) s.heap.size) s.heap s.heap [] := va_S.rf
  have hl := lv_entry ([.ref (A 0), .int (nI k0)]) (n := 2) (Nat.le_of_ble_eq_true rfl)
  rw [lg_entry_eq]
  generalize (lg_sl ([.ref (A 0), .int (nI k0)]) ++ List.replicate (2 - (lg_sl ([.ref (A 0), .int (nI k0)])).length) Slot.unset).toArray = ls at hl ⊢
  have hl : lv_has ls 2 [(0, .ref (A 0)), (1, .int (nI k0))] := hl
  have hf7 := hts (.fieldLink RX5 7 "PhaseConverterModel" "z" "[I") (List.mem_of_getElem? (i := 1) rfl)
  have hiX5 : ∀ w ∈ u_ws RX5 TX5 15, w ∈ wsX5_step := memIn [6, 7, 8, 9, 10, 11, 12, 13, 14, 15, 16, 17, 18, 19, 20] rfl
  refine lv_aload_n hx hb dX5_step_0 rfl (lv_at hl 0 rfl) ?_
  refine va_get (D := E.1) (ci := 5) (v := .ref (A 1)) (C := RX5) (T := TX5) (N := 15) hx hb hts hiX5 hown hK hP 0 rfl rfl 1 (by decide) hf7 (fun _ h9 => h9) rfl dX5_step_1 ?_
  refine lv_iload_n hx hb dX5_step_4 rfl (lv_at hl 1 rfl) ?_
  refine lv_iconst (v := 1) hx hb dX5_step_5 (by decide) ?_
  refine gsPi (As := [.int (nI k0), .int 1]) (rest := [.ref (A 1)]) ⟨hx, hb, hml, hown, hts⟩ (c_X5_at l E k0 1) (va_cwS 2 hts gX5_step_X5_at rfl rfl rfl (by decide +kernel) ⟨Nat.le_of_ble_eq_true rfl, Nat.le_of_ble_eq_true rfl⟩) hP hK hD hN hS hA rfl hl.1 rfl (Nat.le_of_ble_eq_true rfl) dX5_step_6 ⟨Nat.le_refl _, Nat.le_refl _⟩ (fun H locs hP hD hS => ?_)
  refine gald (x := z (35 + 7 * k0 + 1)) hx hb hK hP 1 rfl (35 + 7 * k0 + 1) (rfl) (by omega) (by decide) rfl dX5_step_9 ?_
  obtain ⟨z_1, ez_1⟩ : ∃ y : Nat → Int32, y = (if (z (35 + 7 * k0 + 1)) ≤ 0 then z else (if (z (35 + 7 * k0 + 0)) < (z 5) then z else (upd (upd (upd z (35 + 7 * k0 + 1) 0) (35 + 7 * k0 + 4) ((z (35 + 7 * k0 + 4)) + 1)) 25 ((z 25) + 1)))) := ⟨_, rfl⟩
  have fz1 : z_1 = st1 k0 z := ez_1
  have h3 : ¬ z_1 3 = 0 := by rw [fz1, st1_lt (by omega) (by omega)]; exact hz.2.2.2.2.2.2.2.1
  have J_10 : ∀ (H : Heap) (locs : List Loc) (ls : Array Slot), va_P E.1 vwCl (wM E A G z_1 a t r h) H → va_D (va_A (wM E A G z a t r h) s.heap.size) (wM E A G z_1 a t r h) → va_S (va_A (wM E A G z a t r h) s.heap.size) s.heap H locs → lv_has ls 2 [(0, .ref (A 0)), (1, .int (nI k0))] → W p l e (gR wsX5_step 1 21) s m ([.ref (A 0), .int (nI k0)] : List Value).toArray below meth c H locs 0 0 (gMQ below E s (wM E A G z a t r h) (wM E A G (step k0 z) a t r h) (none) [.ref (A 0), .int (nI k0)]) (F0 m 68 ls []) := by
    intro H locs ls hP hD hS hl
    refine lv_aload_n hx hb dX5_step_68 rfl (lv_at hl 0 rfl) ?_
    refine va_get (D := E.1) (ci := 5) (v := .ref (A 1)) (C := RX5) (T := TX5) (N := 15) hx hb hts hiX5 hown hK hP 0 rfl rfl 1 (by decide) hf7 (fun _ h9 => h9) rfl dX5_step_69 ?_
    refine lv_iload_n hx hb dX5_step_72 rfl (lv_at hl 1 rfl) ?_
    refine lv_iconst (v := 1) hx hb dX5_step_73 (by decide) ?_
    refine gsPi (As := [.int (nI k0), .int 1]) (rest := [.ref (A 1)]) ⟨hx, hb, hml, hown, hts⟩ (c_X5_at l E k0 1) (va_cwS 2 hts gX5_step_X5_at rfl rfl rfl (by decide +kernel) ⟨Nat.le_of_ble_eq_true rfl, Nat.le_of_ble_eq_true rfl⟩) hP hK hD hN hS hA rfl hl.1 rfl (Nat.le_of_ble_eq_true rfl) dX5_step_74 ⟨Nat.le_refl _, Nat.le_refl _⟩ (fun H locs hP hD hS => ?_)
    refine gald (x := z_1 (35 + 7 * k0 + 1)) hx hb hK hP 1 rfl (35 + 7 * k0 + 1) (rfl) (by omega) (by decide) rfl dX5_step_77 ?_
    obtain ⟨z_2, ez_2⟩ : ∃ y : Nat → Int32, y = (if (z_1 (35 + 7 * k0 + 1)) ≤ 0 then (upd z_1 (35 + 7 * k0 + 0) ((z_1 (35 + 7 * k0 + 0)) - ((z_1 17) / (z_1 3)))) else (upd (upd (upd z_1 (35 + 7 * k0 + 1) ((z_1 (35 + 7 * k0 + 1)) - 1)) (35 + 7 * k0 + 3) ((z_1 (35 + 7 * k0 + 3)) + 1)) (35 + 7 * k0 + 0) ((z_1 (35 + 7 * k0 + 0)) + (((z_1 0) - (z_1 17)) / (z_1 3))))) := ⟨_, rfl⟩
    have fz2 : z_2 = st2 k0 (st1 k0 z) := by rw [← fz1]; exact ez_2
    have J_78 : ∀ (H : Heap) (locs : List Loc) (ls : Array Slot), va_P E.1 vwCl (wM E A G z_2 a t r h) H → va_D (va_A (wM E A G z a t r h) s.heap.size) (wM E A G z_2 a t r h) → va_S (va_A (wM E A G z a t r h) s.heap.size) s.heap H locs → lv_has ls 2 [(0, .ref (A 0)), (1, .int (nI k0))] → W p l e (gR wsX5_step 1 21) s m ([.ref (A 0), .int (nI k0)] : List Value).toArray below meth c H locs 0 0 (gMQ below E s (wM E A G z a t r h) (wM E A G (step k0 z) a t r h) (none) [.ref (A 0), .int (nI k0)]) (F0 m 173 ls []) := by
      intro H locs ls hP hD hS hl
      refine lv_aload_n hx hb dX5_step_173 rfl (lv_at hl 0 rfl) ?_
      refine va_get (D := E.1) (ci := 5) (v := .ref (A 1)) (C := RX5) (T := TX5) (N := 15) hx hb hts hiX5 hown hK hP 0 rfl rfl 1 (by decide) hf7 (fun _ h9 => h9) rfl dX5_step_174 ?_
      refine lv_iload_n hx hb dX5_step_177 rfl (lv_at hl 1 rfl) ?_
      refine lv_iconst (v := 0) hx hb dX5_step_178 (by decide) ?_
      refine gsPi (As := [.int (nI k0), .int 0]) (rest := [.ref (A 1)]) ⟨hx, hb, hml, hown, hts⟩ (c_X5_at l E k0 0) (va_cwS 2 hts gX5_step_X5_at rfl rfl rfl (by decide +kernel) ⟨Nat.le_of_ble_eq_true rfl, Nat.le_of_ble_eq_true rfl⟩) hP hK hD hN hS hA rfl hl.1 rfl (Nat.le_of_ble_eq_true rfl) dX5_step_179 ⟨Nat.le_refl _, Nat.le_refl _⟩ (fun H locs hP hD hS => ?_)
      refine lv_aload_n hx hb dX5_step_182 rfl (lv_at hl 0 rfl) ?_
      refine va_get (D := E.1) (ci := 5) (v := .ref (A 1)) (C := RX5) (T := TX5) (N := 15) hx hb hts hiX5 hown hK hP 0 rfl rfl 1 (by decide) hf7 (fun _ h9 => h9) rfl dX5_step_183 ?_
      refine lv_iload_n hx hb dX5_step_186 rfl (lv_at hl 1 rfl) ?_
      refine lv_iconst (v := 0) hx hb dX5_step_187 (by decide) ?_
      refine gsPi (As := [.int (nI k0), .int 0]) (rest := [.ref (A 1), .int (nI (35 + 7 * k0 + 0)), .ref (A 1)]) ⟨hx, hb, hml, hown, hts⟩ (c_X5_at l E k0 0) (va_cwS 2 hts gX5_step_X5_at rfl rfl rfl (by decide +kernel) ⟨Nat.le_of_ble_eq_true rfl, Nat.le_of_ble_eq_true rfl⟩) hP hK hD hN hS hA rfl hl.1 rfl (Nat.le_of_ble_eq_true rfl) dX5_step_188 ⟨Nat.le_refl _, Nat.le_refl _⟩ (fun H locs hP hD hS => ?_)
      refine gald (x := z_2 (35 + 7 * k0 + 0)) hx hb hK hP 1 rfl (35 + 7 * k0 + 0) (rfl) (by omega) (by decide) rfl dX5_step_191 ?_
      refine lv_if_ge (tgt := 199) hx hb dX5_step_192 (by decide) (fun c_192 => ?_) (fun c_192 => ?_)
      · refine lv_aload_n hx hb dX5_step_199 rfl (lv_at hl 0 rfl) ?_
        refine va_get (D := E.1) (ci := 5) (v := .ref (A 1)) (C := RX5) (T := TX5) (N := 15) hx hb hts hiX5 hown hK hP 0 rfl rfl 1 (by decide) hf7 (fun _ h9 => h9) rfl dX5_step_200 ?_
        refine lv_iload_n hx hb dX5_step_203 rfl (lv_at hl 1 rfl) ?_
        refine lv_iconst (v := 0) hx hb dX5_step_204 (by decide) ?_
        refine gsPi (As := [.int (nI k0), .int 0]) (rest := [.ref (A 1), .int (nI (35 + 7 * k0 + 0)), .ref (A 1)]) ⟨hx, hb, hml, hown, hts⟩ (c_X5_at l E k0 0) (va_cwS 2 hts gX5_step_X5_at rfl rfl rfl (by decide +kernel) ⟨Nat.le_of_ble_eq_true rfl, Nat.le_of_ble_eq_true rfl⟩) hP hK hD hN hS hA rfl hl.1 rfl (Nat.le_of_ble_eq_true rfl) dX5_step_205 ⟨Nat.le_refl _, Nat.le_refl _⟩ (fun H locs hP hD hS => ?_)
        refine gald (x := z_2 (35 + 7 * k0 + 0)) hx hb hK hP 1 rfl (35 + 7 * k0 + 0) (rfl) (by omega) (by decide) rfl dX5_step_208 ?_
        refine gast hx hb hK hP hD hS 1 rfl (35 + 7 * k0 + 0) (rfl) (by omega) (by decide) dX5_step_209 (fun H locs hP hD hS => ?_)
        have hP : va_P E.1 vwCl (wM E A G (upd z_2 (35 + 7 * k0 + 0) (z_2 (35 + 7 * k0 + 0))) a t r h) H := hP
        have hD : va_D _ (wM E A G (upd z_2 (35 + 7 * k0 + 0) (z_2 (35 + 7 * k0 + 0))) a t r h) := hD
        exact gretv hx hb hr hlocks hP hD hS (by simp only [step, st3, ← fz2, if_pos c_192]) dX5_step_210
      · refine lv_iconst (v := 0) hx hb dX5_step_195 (by decide) ?_
        refine lv_goto (tgt := 209) hx hb dX5_step_196 (by decide) ?_
        refine gast hx hb hK hP hD hS 1 rfl (35 + 7 * k0 + 0) (rfl) (by omega) (by decide) dX5_step_209 (fun H locs hP hD hS => ?_)
        have hP : va_P E.1 vwCl (wM E A G (upd z_2 (35 + 7 * k0 + 0) 0) a t r h) H := hP
        have hD : va_D _ (wM E A G (upd z_2 (35 + 7 * k0 + 0) 0) a t r h) := hD
        exact gretv hx hb hr hlocks hP hD hS (by simp only [step, st3, ← fz2, if_neg c_192]) dX5_step_210
    refine lv_if_le (tgt := 146) hx hb dX5_step_78 (by decide) (fun c_78 => ?_) (fun c_78 => ?_)
    · refine lv_aload_n hx hb dX5_step_146 rfl (lv_at hl 0 rfl) ?_
      refine va_get (D := E.1) (ci := 5) (v := .ref (A 1)) (C := RX5) (T := TX5) (N := 15) hx hb hts hiX5 hown hK hP 0 rfl rfl 1 (by decide) hf7 (fun _ h9 => h9) rfl dX5_step_147 ?_
      refine lv_iload_n hx hb dX5_step_150 rfl (lv_at hl 1 rfl) ?_
      refine lv_iconst (v := 0) hx hb dX5_step_151 (by decide) ?_
      refine gsPi (As := [.int (nI k0), .int 0]) (rest := [.ref (A 1)]) ⟨hx, hb, hml, hown, hts⟩ (c_X5_at l E k0 0) (va_cwS 2 hts gX5_step_X5_at rfl rfl rfl (by decide +kernel) ⟨Nat.le_of_ble_eq_true rfl, Nat.le_of_ble_eq_true rfl⟩) hP hK hD hN hS hA rfl hl.1 rfl (Nat.le_of_ble_eq_true rfl) dX5_step_152 ⟨Nat.le_refl _, Nat.le_refl _⟩ (fun H locs hP hD hS => ?_)
      refine lv_dup2_11 hx hb dX5_step_155 rfl rfl ?_
      refine gald (x := z_1 (35 + 7 * k0 + 0)) hx hb hK hP 1 rfl (35 + 7 * k0 + 0) (rfl) (by omega) (by decide) rfl dX5_step_156 ?_
      refine lv_aload_n hx hb dX5_step_157 rfl (lv_at hl 0 rfl) ?_
      refine va_get (D := E.1) (ci := 5) (v := .ref (A 1)) (C := RX5) (T := TX5) (N := 15) hx hb hts hiX5 hown hK hP 0 rfl rfl 1 (by decide) hf7 (fun _ h9 => h9) rfl dX5_step_158 ?_
      refine lv_bipush (v := 17) hx hb dX5_step_161 (by decide) ?_
      refine gald (x := z_1 17) hx hb hK hP 1 rfl 17 (rfl) (by decide) (by decide) rfl dX5_step_163 ?_
      refine lv_aload_n hx hb dX5_step_164 rfl (lv_at hl 0 rfl) ?_
      refine va_get (D := E.1) (ci := 5) (v := .ref (A 1)) (C := RX5) (T := TX5) (N := 15) hx hb hts hiX5 hown hK hP 0 rfl rfl 1 (by decide) hf7 (fun _ h9 => h9) rfl dX5_step_165 ?_
      refine lv_iconst (v := 3) hx hb dX5_step_168 (by decide) ?_
      refine gald (x := z_1 3) hx hb hK hP 1 rfl 3 (rfl) (by decide) (by decide) rfl dX5_step_169 ?_
      refine lv_idiv hx hb dX5_step_170 h3 ?_
      refine lv_isub hx hb dX5_step_171 ?_
      refine gast hx hb hK hP hD hS 1 rfl (35 + 7 * k0 + 0) (rfl) (by omega) (by decide) dX5_step_172 (fun H locs hP hD hS => ?_)
      have hP : va_P E.1 vwCl (wM E A G (upd z_1 (35 + 7 * k0 + 0) ((z_1 (35 + 7 * k0 + 0)) - ((z_1 17) / (z_1 3)))) a t r h) H := hP
      have hD : va_D _ (wM E A G (upd z_1 (35 + 7 * k0 + 0) ((z_1 (35 + 7 * k0 + 0)) - ((z_1 17) / (z_1 3)))) a t r h) := hD
      exact J_78 H locs ls (by rw [ez_2]; simp only [if_pos c_78]; exact hP) (by rw [ez_2]; simp only [if_pos c_78]; exact hD) hS (lv_sub hl [0, 1] rfl)
    · refine lv_aload_n hx hb dX5_step_81 rfl (lv_at hl 0 rfl) ?_
      refine va_get (D := E.1) (ci := 5) (v := .ref (A 1)) (C := RX5) (T := TX5) (N := 15) hx hb hts hiX5 hown hK hP 0 rfl rfl 1 (by decide) hf7 (fun _ h9 => h9) rfl dX5_step_82 ?_
      refine lv_iload_n hx hb dX5_step_85 rfl (lv_at hl 1 rfl) ?_
      refine lv_iconst (v := 1) hx hb dX5_step_86 (by decide) ?_
      refine gsPi (As := [.int (nI k0), .int 1]) (rest := [.ref (A 1)]) ⟨hx, hb, hml, hown, hts⟩ (c_X5_at l E k0 1) (va_cwS 2 hts gX5_step_X5_at rfl rfl rfl (by decide +kernel) ⟨Nat.le_of_ble_eq_true rfl, Nat.le_of_ble_eq_true rfl⟩) hP hK hD hN hS hA rfl hl.1 rfl (Nat.le_of_ble_eq_true rfl) dX5_step_87 ⟨Nat.le_refl _, Nat.le_refl _⟩ (fun H locs hP hD hS => ?_)
      refine lv_dup2_11 hx hb dX5_step_90 rfl rfl ?_
      refine gald (x := z_1 (35 + 7 * k0 + 1)) hx hb hK hP 1 rfl (35 + 7 * k0 + 1) (rfl) (by omega) (by decide) rfl dX5_step_91 ?_
      refine lv_iconst (v := 1) hx hb dX5_step_92 (by decide) ?_
      refine lv_isub hx hb dX5_step_93 ?_
      refine gast hx hb hK hP hD hS 1 rfl (35 + 7 * k0 + 1) (rfl) (by omega) (by decide) dX5_step_94 (fun H locs hP hD hS => ?_)
      have hP : va_P E.1 vwCl (wM E A G (upd z_1 (35 + 7 * k0 + 1) ((z_1 (35 + 7 * k0 + 1)) - 1)) a t r h) H := hP
      have hD : va_D _ (wM E A G (upd z_1 (35 + 7 * k0 + 1) ((z_1 (35 + 7 * k0 + 1)) - 1)) a t r h) := hD
      refine lv_aload_n hx hb dX5_step_95 rfl (lv_at hl 0 rfl) ?_
      refine va_get (D := E.1) (ci := 5) (v := .ref (A 1)) (C := RX5) (T := TX5) (N := 15) hx hb hts hiX5 hown hK hP 0 rfl rfl 1 (by decide) hf7 (fun _ h9 => h9) rfl dX5_step_96 ?_
      refine lv_iload_n hx hb dX5_step_99 rfl (lv_at hl 1 rfl) ?_
      refine lv_iconst (v := 3) hx hb dX5_step_100 (by decide) ?_
      refine gsPi (As := [.int (nI k0), .int 3]) (rest := [.ref (A 1)]) ⟨hx, hb, hml, hown, hts⟩ (c_X5_at l E k0 3) (va_cwS 2 hts gX5_step_X5_at rfl rfl rfl (by decide +kernel) ⟨Nat.le_of_ble_eq_true rfl, Nat.le_of_ble_eq_true rfl⟩) hP hK hD hN hS hA rfl hl.1 rfl (Nat.le_of_ble_eq_true rfl) dX5_step_101 ⟨Nat.le_refl _, Nat.le_refl _⟩ (fun H locs hP hD hS => ?_)
      refine lv_dup2_11 hx hb dX5_step_104 rfl rfl ?_
      refine gald (x := z_1 (35 + 7 * k0 + 3)) hx hb hK hP 1 rfl (35 + 7 * k0 + 3) (rfl) (by omega) (by decide) ((pk_un (by omega)).trans rfl) dX5_step_105 ?_
      refine lv_iconst (v := 1) hx hb dX5_step_106 (by decide) ?_
      refine lv_iadd hx hb dX5_step_107 ?_
      refine gast hx hb hK hP hD hS 1 rfl (35 + 7 * k0 + 3) (rfl) (by omega) (by decide) dX5_step_108 (fun H locs hP hD hS => ?_)
      have hP : va_P E.1 vwCl (wM E A G (upd (upd z_1 (35 + 7 * k0 + 1) ((z_1 (35 + 7 * k0 + 1)) - 1)) (35 + 7 * k0 + 3) ((z_1 (35 + 7 * k0 + 3)) + 1)) a t r h) H := hP
      have hD : va_D _ (wM E A G (upd (upd z_1 (35 + 7 * k0 + 1) ((z_1 (35 + 7 * k0 + 1)) - 1)) (35 + 7 * k0 + 3) ((z_1 (35 + 7 * k0 + 3)) + 1)) a t r h) := hD
      refine lv_aload_n hx hb dX5_step_109 rfl (lv_at hl 0 rfl) ?_
      refine va_get (D := E.1) (ci := 5) (v := .ref (A 1)) (C := RX5) (T := TX5) (N := 15) hx hb hts hiX5 hown hK hP 0 rfl rfl 1 (by decide) hf7 (fun _ h9 => h9) rfl dX5_step_110 ?_
      refine lv_iload_n hx hb dX5_step_113 rfl (lv_at hl 1 rfl) ?_
      refine lv_iconst (v := 0) hx hb dX5_step_114 (by decide) ?_
      refine gsPi (As := [.int (nI k0), .int 0]) (rest := [.ref (A 1)]) ⟨hx, hb, hml, hown, hts⟩ (c_X5_at l E k0 0) (va_cwS 2 hts gX5_step_X5_at rfl rfl rfl (by decide +kernel) ⟨Nat.le_of_ble_eq_true rfl, Nat.le_of_ble_eq_true rfl⟩) hP hK hD hN hS hA rfl hl.1 rfl (Nat.le_of_ble_eq_true rfl) dX5_step_115 ⟨Nat.le_refl _, Nat.le_refl _⟩ (fun H locs hP hD hS => ?_)
      refine lv_dup2_11 hx hb dX5_step_118 rfl rfl ?_
      refine gald (x := z_1 (35 + 7 * k0 + 0)) hx hb hK hP 1 rfl (35 + 7 * k0 + 0) (rfl) (by omega) (by decide) ((pk_un (by omega)).trans ((pk_un (by omega)).trans rfl)) dX5_step_119 ?_
      refine lv_aload_n hx hb dX5_step_120 rfl (lv_at hl 0 rfl) ?_
      refine va_get (D := E.1) (ci := 5) (v := .ref (A 1)) (C := RX5) (T := TX5) (N := 15) hx hb hts hiX5 hown hK hP 0 rfl rfl 1 (by decide) hf7 (fun _ h9 => h9) rfl dX5_step_121 ?_
      refine lv_iconst (v := 0) hx hb dX5_step_124 (by decide) ?_
      refine gald (x := z_1 0) hx hb hK hP 1 rfl 0 (rfl) (by decide) (by decide) ((pk_un (by omega)).trans ((pk_un (by omega)).trans rfl)) dX5_step_125 ?_
      refine lv_aload_n hx hb dX5_step_126 rfl (lv_at hl 0 rfl) ?_
      refine va_get (D := E.1) (ci := 5) (v := .ref (A 1)) (C := RX5) (T := TX5) (N := 15) hx hb hts hiX5 hown hK hP 0 rfl rfl 1 (by decide) hf7 (fun _ h9 => h9) rfl dX5_step_127 ?_
      refine lv_bipush (v := 17) hx hb dX5_step_130 (by decide) ?_
      refine gald (x := z_1 17) hx hb hK hP 1 rfl 17 (rfl) (by decide) (by decide) ((pk_un (by omega)).trans ((pk_un (by omega)).trans rfl)) dX5_step_132 ?_
      refine lv_isub hx hb dX5_step_133 ?_
      refine lv_aload_n hx hb dX5_step_134 rfl (lv_at hl 0 rfl) ?_
      refine va_get (D := E.1) (ci := 5) (v := .ref (A 1)) (C := RX5) (T := TX5) (N := 15) hx hb hts hiX5 hown hK hP 0 rfl rfl 1 (by decide) hf7 (fun _ h9 => h9) rfl dX5_step_135 ?_
      refine lv_iconst (v := 3) hx hb dX5_step_138 (by decide) ?_
      refine gald (x := z_1 3) hx hb hK hP 1 rfl 3 (rfl) (by decide) (by decide) ((pk_un (by omega)).trans ((pk_un (by omega)).trans rfl)) dX5_step_139 ?_
      refine lv_idiv hx hb dX5_step_140 h3 ?_
      refine lv_iadd hx hb dX5_step_141 ?_
      refine gast hx hb hK hP hD hS 1 rfl (35 + 7 * k0 + 0) (rfl) (by omega) (by decide) dX5_step_142 (fun H locs hP hD hS => ?_)
      have hP : va_P E.1 vwCl (wM E A G (upd (upd (upd z_1 (35 + 7 * k0 + 1) ((z_1 (35 + 7 * k0 + 1)) - 1)) (35 + 7 * k0 + 3) ((z_1 (35 + 7 * k0 + 3)) + 1)) (35 + 7 * k0 + 0) ((z_1 (35 + 7 * k0 + 0)) + (((z_1 0) - (z_1 17)) / (z_1 3)))) a t r h) H := hP
      have hD : va_D _ (wM E A G (upd (upd (upd z_1 (35 + 7 * k0 + 1) ((z_1 (35 + 7 * k0 + 1)) - 1)) (35 + 7 * k0 + 3) ((z_1 (35 + 7 * k0 + 3)) + 1)) (35 + 7 * k0 + 0) ((z_1 (35 + 7 * k0 + 0)) + (((z_1 0) - (z_1 17)) / (z_1 3)))) a t r h) := hD
      refine lv_goto (tgt := 173) hx hb dX5_step_143 (by decide) ?_
      exact J_78 H locs ls (by rw [ez_2]; simp only [if_neg c_78]; exact hP) (by rw [ez_2]; simp only [if_neg c_78]; exact hD) hS (lv_sub hl [0, 1] rfl)
  refine lv_if_le (tgt := 68) hx hb dX5_step_10 (by decide) (fun c_10 => ?_) (fun c_10 => ?_)
  · exact J_10 H locs ls (by rw [ez_1]; simp only [if_pos c_10]; exact hP) (by rw [ez_1]; simp only [if_pos c_10]; exact hD) hS (lv_sub hl [0, 1] rfl)
  · refine lv_aload_n hx hb dX5_step_13 rfl (lv_at hl 0 rfl) ?_
    refine va_get (D := E.1) (ci := 5) (v := .ref (A 1)) (C := RX5) (T := TX5) (N := 15) hx hb hts hiX5 hown hK hP 0 rfl rfl 1 (by decide) hf7 (fun _ h9 => h9) rfl dX5_step_14 ?_
    refine lv_iload_n hx hb dX5_step_17 rfl (lv_at hl 1 rfl) ?_
    refine lv_iconst (v := 0) hx hb dX5_step_18 (by decide) ?_
    refine gsPi (As := [.int (nI k0), .int 0]) (rest := [.ref (A 1)]) ⟨hx, hb, hml, hown, hts⟩ (c_X5_at l E k0 0) (va_cwS 2 hts gX5_step_X5_at rfl rfl rfl (by decide +kernel) ⟨Nat.le_of_ble_eq_true rfl, Nat.le_of_ble_eq_true rfl⟩) hP hK hD hN hS hA rfl hl.1 rfl (Nat.le_of_ble_eq_true rfl) dX5_step_19 ⟨Nat.le_refl _, Nat.le_refl _⟩ (fun H locs hP hD hS => ?_)
    refine gald (x := z (35 + 7 * k0 + 0)) hx hb hK hP 1 rfl (35 + 7 * k0 + 0) (rfl) (by omega) (by decide) rfl dX5_step_22 ?_
    refine lv_aload_n hx hb dX5_step_23 rfl (lv_at hl 0 rfl) ?_
    refine va_get (D := E.1) (ci := 5) (v := .ref (A 1)) (C := RX5) (T := TX5) (N := 15) hx hb hts hiX5 hown hK hP 0 rfl rfl 1 (by decide) hf7 (fun _ h9 => h9) rfl dX5_step_24 ?_
    refine lv_iconst (v := 5) hx hb dX5_step_27 (by decide) ?_
    refine gald (x := z 5) hx hb hK hP 1 rfl 5 (rfl) (by decide) (by decide) rfl dX5_step_28 ?_
    refine lv_icmp_lt (tgt := 68) hx hb dX5_step_29 (by decide) (fun c_29 => ?_) (fun c_29 => ?_)
    · exact J_10 H locs ls (by rw [ez_1]; simp only [if_neg c_10, if_pos c_29]; exact hP) (by rw [ez_1]; simp only [if_neg c_10, if_pos c_29]; exact hD) hS (lv_sub hl [0, 1] rfl)
    · refine lv_aload_n hx hb dX5_step_32 rfl (lv_at hl 0 rfl) ?_
      refine va_get (D := E.1) (ci := 5) (v := .ref (A 1)) (C := RX5) (T := TX5) (N := 15) hx hb hts hiX5 hown hK hP 0 rfl rfl 1 (by decide) hf7 (fun _ h9 => h9) rfl dX5_step_33 ?_
      refine lv_iload_n hx hb dX5_step_36 rfl (lv_at hl 1 rfl) ?_
      refine lv_iconst (v := 1) hx hb dX5_step_37 (by decide) ?_
      refine gsPi (As := [.int (nI k0), .int 1]) (rest := [.ref (A 1)]) ⟨hx, hb, hml, hown, hts⟩ (c_X5_at l E k0 1) (va_cwS 2 hts gX5_step_X5_at rfl rfl rfl (by decide +kernel) ⟨Nat.le_of_ble_eq_true rfl, Nat.le_of_ble_eq_true rfl⟩) hP hK hD hN hS hA rfl hl.1 rfl (Nat.le_of_ble_eq_true rfl) dX5_step_38 ⟨Nat.le_refl _, Nat.le_refl _⟩ (fun H locs hP hD hS => ?_)
      refine lv_iconst (v := 0) hx hb dX5_step_41 (by decide) ?_
      refine gast hx hb hK hP hD hS 1 rfl (35 + 7 * k0 + 1) (rfl) (by omega) (by decide) dX5_step_42 (fun H locs hP hD hS => ?_)
      have hP : va_P E.1 vwCl (wM E A G (upd z (35 + 7 * k0 + 1) 0) a t r h) H := hP
      have hD : va_D _ (wM E A G (upd z (35 + 7 * k0 + 1) 0) a t r h) := hD
      refine lv_aload_n hx hb dX5_step_43 rfl (lv_at hl 0 rfl) ?_
      refine va_get (D := E.1) (ci := 5) (v := .ref (A 1)) (C := RX5) (T := TX5) (N := 15) hx hb hts hiX5 hown hK hP 0 rfl rfl 1 (by decide) hf7 (fun _ h9 => h9) rfl dX5_step_44 ?_
      refine lv_iload_n hx hb dX5_step_47 rfl (lv_at hl 1 rfl) ?_
      refine lv_iconst (v := 4) hx hb dX5_step_48 (by decide) ?_
      refine gsPi (As := [.int (nI k0), .int 4]) (rest := [.ref (A 1)]) ⟨hx, hb, hml, hown, hts⟩ (c_X5_at l E k0 4) (va_cwS 2 hts gX5_step_X5_at rfl rfl rfl (by decide +kernel) ⟨Nat.le_of_ble_eq_true rfl, Nat.le_of_ble_eq_true rfl⟩) hP hK hD hN hS hA rfl hl.1 rfl (Nat.le_of_ble_eq_true rfl) dX5_step_49 ⟨Nat.le_refl _, Nat.le_refl _⟩ (fun H locs hP hD hS => ?_)
      refine lv_dup2_11 hx hb dX5_step_52 rfl rfl ?_
      refine gald (x := z (35 + 7 * k0 + 4)) hx hb hK hP 1 rfl (35 + 7 * k0 + 4) (rfl) (by omega) (by decide) ((pk_un (by omega)).trans rfl) dX5_step_53 ?_
      refine lv_iconst (v := 1) hx hb dX5_step_54 (by decide) ?_
      refine lv_iadd hx hb dX5_step_55 ?_
      refine gast hx hb hK hP hD hS 1 rfl (35 + 7 * k0 + 4) (rfl) (by omega) (by decide) dX5_step_56 (fun H locs hP hD hS => ?_)
      have hP : va_P E.1 vwCl (wM E A G (upd (upd z (35 + 7 * k0 + 1) 0) (35 + 7 * k0 + 4) ((z (35 + 7 * k0 + 4)) + 1)) a t r h) H := hP
      have hD : va_D _ (wM E A G (upd (upd z (35 + 7 * k0 + 1) 0) (35 + 7 * k0 + 4) ((z (35 + 7 * k0 + 4)) + 1)) a t r h) := hD
      refine lv_aload_n hx hb dX5_step_57 rfl (lv_at hl 0 rfl) ?_
      refine va_get (D := E.1) (ci := 5) (v := .ref (A 1)) (C := RX5) (T := TX5) (N := 15) hx hb hts hiX5 hown hK hP 0 rfl rfl 1 (by decide) hf7 (fun _ h9 => h9) rfl dX5_step_58 ?_
      refine lv_bipush (v := 25) hx hb dX5_step_61 (by decide) ?_
      refine lv_dup2_11 hx hb dX5_step_63 rfl rfl ?_
      refine gald (x := z 25) hx hb hK hP 1 rfl 25 (rfl) (by decide) (by decide) ((pk_un (by omega)).trans ((pk_un (by omega)).trans rfl)) dX5_step_64 ?_
      refine lv_iconst (v := 1) hx hb dX5_step_65 (by decide) ?_
      refine lv_iadd hx hb dX5_step_66 ?_
      refine gast hx hb hK hP hD hS 1 rfl 25 (rfl) (by decide) (by decide) dX5_step_67 (fun H locs hP hD hS => ?_)
      have hP : va_P E.1 vwCl (wM E A G (upd (upd (upd z (35 + 7 * k0 + 1) 0) (35 + 7 * k0 + 4) ((z (35 + 7 * k0 + 4)) + 1)) 25 ((z 25) + 1)) a t r h) H := hP
      have hD : va_D _ (wM E A G (upd (upd (upd z (35 + 7 * k0 + 1) 0) (35 + 7 * k0 + 4) ((z (35 + 7 * k0 + 4)) + 1)) 25 ((z 25) + 1)) a t r h) := hD
      exact J_10 H locs ls (by rw [ez_1]; simp only [if_neg c_10, if_neg c_29]; exact hP) (by rw [ez_1]; simp only [if_neg c_10, if_neg c_29]; exact hD) hS (lv_sub hl [0, 1] rfl)

set_option maxHeartbeats 4000000 in
set_option maxRecDepth 100000 in
theorem c_X5_layExtremes (l : Launch) (E : EE) (A : Nat → Nat) (G z a t r : Nat → Int32) (h : Int64) : GM l yX5_layExtremes wsX5_layExtremes 0 0 E (wM E A G z a t r h) [.ref (A 0)] (wM E A (layE G) z a t r h) (none) := by
  intro sz
  refine Met.ofW (cc := cX5_layExtremes) (maxL := 1) (ret := none) (by decide) rfl ?_
  intro p e s m args below meth c s₁ B hml hv
  obtain ⟨rfl, rfl, hP, hK, hD0, hN⟩ := hv
  have hx := B.exec
  have hb := B.bytes
  have hr := B.returns
  have hts := atoms_spec (ws := wsX5_layExtremes) B.pre
  have hown : s.vm.findClass RX5 = some m.cls := findClass_of_methodNamed B.named
  have hlocks := B.notSynchronized
  have hD := hD0.self (sz := s.heap.size)
  have hA : ∀ q : Nat, s.heap.size ≤ q → va_A (wM E A G z a t r h) s.heap.size q := fun q h => Or.inr h
  have hS : va_S (va_A (wM E A G z a t r h) s.heap.size) s.heap s.heap [] := va_S.rf
  have hl := lv_entry ([.ref (A 0)]) (n := 1) (Nat.le_of_ble_eq_true rfl)
  rw [lg_entry_eq]
  generalize (lg_sl ([.ref (A 0)]) ++ List.replicate (1 - (lg_sl ([.ref (A 0)])).length) Slot.unset).toArray = ls at hl ⊢
  have hl : lv_has ls 1 [(0, .ref (A 0))] := hl
  have hf62 := hts (.fieldLink RX5 62 "PhaseConverterModel" "strongest" "I") (List.mem_of_getElem? (i := 4) rfl)
  have hf69 := hts (.fieldLink RX5 69 "PhaseConverterModel" "least" "I") (List.mem_of_getElem? (i := 2) rfl)
  have hf72 := hts (.fieldLink RX5 72 "PhaseConverterModel" "most" "I") (List.mem_of_getElem? (i := 3) rfl)
  have hiX5 : ∀ w ∈ u_ws RX5 TX5 15, w ∈ wsX5_layExtremes := memIn [5, 6, 7, 8, 9, 10, 11, 12, 13, 14, 15, 16, 17, 18, 19] rfl
  refine lv_aload_n hx hb dX5_layExtremes_0 rfl (lv_at hl 0 rfl) ?_
  refine lv_ldc (own := RX5) (v := 1000000) hx hb hown (hts (.constant RX5 75 (1000000)) (List.mem_of_getElem? (i := 1) rfl)) dX5_layExtremes_1 ?_
  refine va_put (D := E.1) (ci := 5) (v := .int 1000000) (ty := .int) (C := RX5) (T := TX5) (N := 15) hx hb hts hiX5 tyX5 tyX5_ok nmX5 hown hK hP hD hS 0 rfl rfl 5 (by decide) hf69 (fun _ h9 => h9) rfl (by decide +kernel) rfl rfl (Nat.le_of_ble_eq_true rfl) dX5_layExtremes_3 (fun H locs hP hD hS => ?_)
  have hP : va_P E.1 vwCl (wM E A (upd G 5 1000000) z a t r h) H := hP
  have hD : va_D _ (wM E A (upd G 5 1000000) z a t r h) := hD
  refine lv_aload_n hx hb dX5_layExtremes_6 rfl (lv_at hl 0 rfl) ?_
  refine lv_iconst (v := (-1)) hx hb dX5_layExtremes_7 (by decide) ?_
  refine va_put (D := E.1) (ci := 5) (v := .int (-1)) (ty := .int) (C := RX5) (T := TX5) (N := 15) hx hb hts hiX5 tyX5 tyX5_ok nmX5 hown hK hP hD hS 0 rfl rfl 6 (by decide) hf72 (fun _ h9 => h9) rfl (by decide +kernel) rfl rfl (Nat.le_of_ble_eq_true rfl) dX5_layExtremes_8 (fun H locs hP hD hS => ?_)
  have hP : va_P E.1 vwCl (wM E A (upd (upd G 5 1000000) 6 (-1)) z a t r h) H := hP
  have hD : va_D _ (wM E A (upd (upd G 5 1000000) 6 (-1)) z a t r h) := hD
  refine lv_aload_n hx hb dX5_layExtremes_11 rfl (lv_at hl 0 rfl) ?_
  refine lv_iconst (v := 0) hx hb dX5_layExtremes_12 (by decide) ?_
  refine va_put (D := E.1) (ci := 5) (v := .int 0) (ty := .int) (C := RX5) (T := TX5) (N := 15) hx hb hts hiX5 tyX5 tyX5_ok nmX5 hown hK hP hD hS 0 rfl rfl 7 (by decide) hf62 (fun _ h9 => h9) rfl (by decide +kernel) rfl rfl (Nat.le_of_ble_eq_true rfl) dX5_layExtremes_13 (fun H locs hP hD hS => ?_)
  have hP : va_P E.1 vwCl (wM E A (upd (upd (upd G 5 1000000) 6 (-1)) 7 0) z a t r h) H := hP
  have hD : va_D _ (wM E A (upd (upd (upd G 5 1000000) 6 (-1)) 7 0) z a t r h) := hD
  exact gretv hx hb hr hlocks hP hD hS (rfl) dX5_layExtremes_16
