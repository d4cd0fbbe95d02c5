set_option maxHeartbeats 4000000 in
set_option maxRecDepth 100000 in
theorem c_X5_readText (l : Launch) (E : EE) (A : Nat → Nat) (G z a t r : Nat → Int32) (h : Int64) (L : Nat) (hL : G 3 = nI L) (hL5 : L ≤ 50) : GM l yX5_readText wsX5_readText 2 45 E (wM E A G z a t r h) [.ref (A 0)] (wM E A ((rdF t L G r).1) z a t ((rdF t L G r).2.1) h) (some (.int (rdF t L G r).2.2)) := by
  intro sz
  refine Met.ofW (cc := cX5_readText) (maxL := 2) (ret := (some .int)) (by decide) rfl ?_
  intro p e s m args below meth c s₁ B hml hv
  obtain ⟨rfl, rfl, hP, hK, hD0, hN⟩ := hv
  have hx := B.exec
  have hb := B.bytes
  have hr := B.returns
  have hts := atoms_spec (ws := wsX5_readText) B.pre
  have hown : s.vm.findClass RX5 = some m.cls := findClass_of_methodNamed B.named
  have hlocks := B.notSynchronized
  have hD := hD0.self (sz := s.heap.size)
  have hA : ∀ q : Nat, s.heap.size ≤ q → va_A (wM E A G z a t r h) s.heap.size q := fun q h => Or.inr h
  have hS : va_S (va_A (wM E A G z a t r h) s.heap.size) s.heap s.heap [] := va_S.rf
  have hl := lv_entry ([.ref (A 0)]) (n := 2) (Nat.le_of_ble_eq_true rfl)
  rw [lg_entry_eq]
  generalize (lg_sl ([.ref (A 0)]) ++ List.replicate (2 - (lg_sl ([.ref (A 0)])).length) Slot.unset).toArray = ls at hl ⊢
  have hl : lv_has ls 2 [(0, .ref (A 0))] := hl
  have hf111 := hts (.fieldLink RX5 111 "PhaseConverterModel" "length" "I") (List.mem_of_getElem? (i := 3) rfl)
  have hf123 := hts (.fieldLink RX5 123 "PhaseConverterModel" "step" "I") (List.mem_of_getElem? (i := 1) rfl)
  have hf131 := hts (.fieldLink RX5 131 "PhaseConverterModel" "items" "I") (List.mem_of_getElem? (i := 2) rfl)
  have hf16 := hts (.fieldLink RX5 16 "PhaseConverterModel" "text" "[I") (List.mem_of_getElem? (i := 4) rfl)
  have hiX5 : ∀ w ∈ u_ws RX5 TX5 15, w ∈ wsX5_readText := memIn [25, 26, 27, 28, 29, 30, 31, 32, 33, 34, 35, 36, 37, 38, 39] rfl
  refine lv_aload_n hx hb dX5_readText_0 rfl (lv_at hl 0 rfl) ?_
  refine lv_iconst (v := 0) hx hb dX5_readText_1 (by decide) ?_
  refine va_put (D := E.1) (ci := 5) (v := .int 0) (ty := .int) (C := RX5) (T := TX5) (N := 15) hx hb hts hiX5 tyX5 tyX5_ok nmX5 hown hK hP hD hS 0 rfl rfl 8 (by decide) hf123 (fun _ h9 => h9) rfl (by decide +kernel) rfl rfl (Nat.le_of_ble_eq_true rfl) dX5_readText_2 (fun H locs hP hD hS => ?_)
  have hP : va_P E.1 vwCl (wM E A (upd G 8 0) z a t r h) H := hP
  have hD : va_D _ (wM E A (upd G 8 0) z a t r h) := hD
  refine lv_aload_n hx hb dX5_readText_5 rfl (lv_at hl 0 rfl) ?_
  refine lv_iconst (v := 0) hx hb dX5_readText_6 (by decide) ?_
  refine va_put (D := E.1) (ci := 5) (v := .int 0) (ty := .int) (C := RX5) (T := TX5) (N := 15) hx hb hts hiX5 tyX5 tyX5_ok nmX5 hown hK hP hD hS 0 rfl rfl 12 (by decide) hf131 (fun _ h9 => h9) rfl (by decide +kernel) rfl rfl (Nat.le_of_ble_eq_true rfl) dX5_readText_7 (fun H locs hP hD hS => ?_)
  have hP : va_P E.1 vwCl (wM E A (upd (upd G 8 0) 12 0) z a t r h) H := hP
  have hD : va_D _ (wM E A (upd (upd G 8 0) 12 0) z a t r h) := hD
  refine lv_iconst (v := 0) hx hb dX5_readText_10 (by decide) ?_
  refine lv_istore_n (lv' := [(1, .int 0), (0, .ref (A 0))]) hx hb dX5_readText_11 rfl hl (by decide) rfl (fun ls hl => ?_)
  have L_12 : ∀ (n i : Nat) (G1 : Nat → Int32) (r1 : Nat → Int32) (H : Heap) (locs : List Loc) (ls : Array Slot), (i + n = L) → (gOK i G1) → (G1 3 = nI L) → (rtL t n i G1 r1 = rtL t L 0 (upd (upd G 8 0) 12 0) r) → va_P E.1 vwCl (wM E A G1 z a t r1 h) H → va_D (va_A (wM E A G z a t r h) s.heap.size) (wM E A G1 z a t r1 h) → va_S (va_A (wM E A G z a t r h) s.heap.size) s.heap H locs → lv_has ls 2 [(1, .int (nI i)), (0, .ref (A 0))] → W p l e (gR wsX5_readText 2 45) s m ([.ref (A 0)] : List Value).toArray below meth c H locs 0 0 (gMQ below E s (wM E A G z a t r h) (wM E A ((rdF t L G r).1) z a t ((rdF t L G r).2.1) h) (some (.int (rdF t L G r).2.2)) [.ref (A 0)]) (F0 m 12 ls []) := by
    intro n
    induction n with
    | zero =>
      intro i G1 r1 H locs ls hin h1 h3 hfn hP hD hS hl
      have hf : (G1, r1, nI i) = rdF t L G r := hfn
      refine lv_iload_n hx hb dX5_readText_12 rfl (lv_at hl 0 rfl) ?_
      refine lv_aload_n hx hb dX5_readText_13 rfl (lv_at hl 1 rfl) ?_
      refine va_get (D := E.1) (ci := 5) (v := .int (G1 3)) (C := RX5) (T := TX5) (N := 15) hx hb hts hiX5 hown hK hP 0 rfl rfl 3 (by decide) hf111 (fun _ h9 => h9) rfl dX5_readText_14 ?_
      refine lv_icmp_ge (tgt := 39) hx hb dX5_readText_17 (by decide) (fun c_17 => ?_) (fun c_17 => absurd (by rw [h3]; exact nI_le (by omega) (by omega)) c_17)
      refine lv_iload_n hx hb dX5_readText_39 rfl (lv_at hl 0 rfl) ?_
      exact greti hx hb hr hlocks hP hD hS (congrArg (fun u => u.2.2) hf) (by rw [← hf]) dX5_readText_40
    | succ n ih =>
      intro i G1 r1 H locs ls hin h1 h3 hfn hP hD hS hl
      refine lv_iload_n hx hb dX5_readText_12 rfl (lv_at hl 0 rfl) ?_
      refine lv_aload_n hx hb dX5_readText_13 rfl (lv_at hl 1 rfl) ?_
      refine va_get (D := E.1) (ci := 5) (v := .int (G1 3)) (C := RX5) (T := TX5) (N := 15) hx hb hts hiX5 hown hK hP 0 rfl rfl 3 (by decide) hf111 (fun _ h9 => h9) rfl dX5_readText_14 ?_
      refine lv_icmp_ge (tgt := 39) hx hb dX5_readText_17 (by decide) (fun c_17 => absurd c_17 (by rw [h3]; exact nI_ge (by omega) (by omega))) (fun c_17 => ?_)
      refine lv_aload_n hx hb dX5_readText_20 rfl (lv_at hl 1 rfl) ?_
      refine lv_aload_n hx hb dX5_readText_21 rfl (lv_at hl 1 rfl) ?_
      refine va_get (D := E.1) (ci := 5) (v := .ref (A 3)) (C := RX5) (T := TX5) (N := 15) hx hb hts hiX5 hown hK hP 0 rfl rfl 4 (by decide) hf16 (fun _ h9 => h9) rfl dX5_readText_22 ?_
      refine lv_iload_n hx hb dX5_readText_25 rfl (lv_at hl 0 rfl) ?_
      refine gald (x := t i) hx hb hK hP 3 rfl i (rfl) (by omega) (by decide) rfl dX5_readText_26 ?_
      refine gv0i (As := [.int (t i)]) (rest := []) ⟨hx, hb, hml, hown, hts⟩ (c_X5_takes l E A G1 z a t r1 h (t i) (itOf G1) h1.1 (by have := h1.2; omega)) (cwV 1 hts gX5_readText_X5_takes rfl rfl rfl (by decide +kernel) ⟨Nat.le_of_ble_eq_true rfl, Nat.le_of_ble_eq_true rfl⟩) (va_recv hK hP (ci := 5) (q0 := 0) rfl rfl) hP hK hD hN hS hA rfl hl.1 rfl (Nat.le_of_ble_eq_true rfl) dX5_readText_27 ⟨Nat.le_refl _, Nat.le_refl _⟩ (fun H locs hP hD hS => ?_)
      have hP : va_P E.1 vwCl (wM E A ((tkF (t i) G1 (itOf G1) r1).1) z a t ((tkF (t i) G1 (itOf G1) r1).2.1) h) H := hP
      have hD : va_D _ (wM E A ((tkF (t i) G1 (itOf G1) r1).1) z a t ((tkF (t i) G1 (itOf G1) r1).2.1) h) := hD
      refine lv_if_eq (tgt := 39) hx hb dX5_readText_30 (by decide) (fun c_30 => ?_) (fun c_30 => ?_)
      · refine lv_iload_n hx hb dX5_readText_39 rfl (lv_at hl 0 rfl) ?_
        exact greti hx hb hr hlocks hP hD hS (congrArg (fun u => u.2.2) ((if_pos c_30).symm.trans hfn : (_, _, _) = rdF t L G r)) (by rw [← ((if_pos c_30).symm.trans hfn : (_, _, _) = rdF t L G r)]) dX5_readText_40
      · refine lv_iinc (v := nI (i + 1)) (lv' := [(1, .int (nI (i + 1))), (0, .ref (A 0))]) hx hb dX5_readText_33 hl (k := 0) rfl (nI_1 _) (by decide) rfl (fun ls hl => ?_)
        refine lv_goto (tgt := 12) hx hb dX5_readText_36 (by decide) ?_
        exact ih (i + 1) ((tkF (t i) G1 (itOf G1) r1).1) ((tkF (t i) G1 (itOf G1) r1).2.1) H locs ls (by omega) (tk_OK h1 (by omega)) ((tkF_3 _ _ _ _).trans h3) ((if_neg c_30).symm.trans hfn) hP hD hS (lv_sub hl [0, 1] rfl)
  exact L_12 (L) (0) (upd (upd G 8 0) 12 0) r H locs ls (by omega) (gOK_0 G) (hL) rfl hP hD hS (lv_sub hl [0, 1] rfl)

set_option maxHeartbeats 4000000 in
set_option maxRecDepth 100000 in
theorem c_X5_firstError (l : Launch) (E : EE) (A : Nat → Nat) (G z a t r : Nat → Int32) (h : Int64) (L : Nat) (hL : G 3 = nI L) (hL5 : L ≤ 50) : GM l yX5_firstError wsX5_firstError 3 66 E (wM E A G z a t r h) [.ref (A 0)] (wM E A ((rdF t L (upd G 0 0) r).1) z a t ((rdF t L (upd G 0 0) r).2.1) h) (some (.int (rdF t L (upd G 0 0) r).2.2)) := by
  intro sz
  refine Met.ofW (cc := cX5_firstError) (maxL := 1) (ret := (some .int)) (by decide) rfl ?_
  intro p e s m args below meth c s₁ B hml hv
  obtain ⟨rfl, rfl, hP, hK, hD0, hN⟩ := hv
  have hx := B.exec
  have hb := B.bytes
  have hr := B.returns
  have hts := atoms_spec (ws := wsX5_firstError) B.pre
  have hown : s.vm.findClass RX5 = some m.cls := findClass_of_methodNamed B.named
  have hlocks := B.notSynchronized
  have hD := hD0.self (sz := s.heap.size)
  have hA : ∀ q : Nat, s.heap.size ≤ q → va_A (wM E A G z a t r h) s.heap.size q := fun q h => Or.inr h
  have hS : va_S (va_A (wM E A G z a t r h) s.heap.size) s.heap s.heap [] := va_S.rf
  have hl := lv_entry ([.ref (A 0)]) (n := 1) (Nat.le_of_ble_eq_true rfl)
  rw [lg_entry_eq]
  generalize (lg_sl ([.ref (A 0)]) ++ List.replicate (1 - (lg_sl ([.ref (A 0)])).length) Slot.unset).toArray = ls at hl ⊢
  have hl : lv_has ls 1 [(0, .ref (A 0))] := hl
  have hf26 := hts (.fieldLink RX5 26 "PhaseConverterModel" "thrown" "I") (List.mem_of_getElem? (i := 1) rfl)
  have hiX5 : ∀ w ∈ u_ws RX5 TX5 15, w ∈ wsX5_firstError := memIn [30, 31, 32, 33, 34, 35, 36, 37, 38, 39, 40, 41, 42, 43, 44] rfl
  refine lv_aload_n hx hb dX5_firstError_0 rfl (lv_at hl 0 rfl) ?_
  refine lv_iconst (v := 0) hx hb dX5_firstError_1 (by decide) ?_
  refine va_put (D := E.1) (ci := 5) (v := .int 0) (ty := .int) (C := RX5) (T := TX5) (N := 15) hx hb hts hiX5 tyX5 tyX5_ok nmX5 hown hK hP hD hS 0 rfl rfl 0 (by decide) hf26 (fun _ h9 => h9) rfl (by decide +kernel) rfl rfl (Nat.le_of_ble_eq_true rfl) dX5_firstError_2 (fun H locs hP hD hS => ?_)
  have hP : va_P E.1 vwCl (wM E A (upd G 0 0) z a t r h) H := hP
  have hD : va_D _ (wM E A (upd G 0 0) z a t r h) := hD
  refine lv_aload_n hx hb dX5_firstError_5 rfl (lv_at hl 0 rfl) ?_
  refine gv0i (As := []) (rest := []) ⟨hx, hb, hml, hown, hts⟩ (c_X5_readText l E A (upd G 0 0) z a t r h L hL hL5) (cwV 0 hts gX5_firstError_X5_readText rfl rfl rfl (by decide +kernel) ⟨Nat.le_of_ble_eq_true rfl, Nat.le_of_ble_eq_true rfl⟩) (va_recv hK hP (ci := 5) (q0 := 0) rfl rfl) hP hK hD hN hS hA rfl hl.1 rfl (Nat.le_of_ble_eq_true rfl) dX5_firstError_6 ⟨Nat.le_refl _, Nat.le_refl _⟩ (fun H locs hP hD hS => ?_)
  have hP : va_P E.1 vwCl (wM E A ((rdF t L (upd G 0 0) r).1) z a t ((rdF t L (upd G 0 0) r).2.1) h) H := hP
  have hD : va_D _ (wM E A ((rdF t L (upd G 0 0) r).1) z a t ((rdF t L (upd G 0 0) r).2.1) h) := hD
  exact greti hx hb hr hlocks hP hD hS (rfl) (rfl) dX5_firstError_9

set_option maxHeartbeats 4000000 in
set_option maxRecDepth 100000 in
theorem c_X5_does (l : Launch) (E : EE) (A : Nat → Nat) (G z a t r : Nat → Int32) (h : Int64) (v1 v2 : Int32) (hz : zOK z) : GM l yX5_does wsX5_does 6 140 E (wM E A G z a t r h) [.ref (A 0), .int v1, .int v2] (wM E A ((doesF v1 v2 z G).2) ((doesF v1 v2 z G).1) a t r h) (some (.int (doesR v1 v2 z G))) := by
  intro sz
  refine Met.ofW (cc := cX5_does) (maxL := 3) (ret := (some .boolean)) (by decide) rfl ?_
  intro p e s m args below meth c s₁ B hml hv
  obtain ⟨rfl, rfl, hP, hK, hD0, hN⟩ := hv
  have hx := B.exec
  have hb := B.bytes
  have hr := B.returns
  have hts := atoms_spec (ws := wsX5_does) B.pre
  have hown : s.vm.findClass RX5 = some m.cls := findClass_of_methodNamed B.named
  have hlocks := B.notSynchronized
  have hD := hD0.self (sz := s.heap.size)
  have hA : ∀ q : Nat, s.heap.size ≤ q → va_A (wM E A G z a t r h) s.heap.size q := fun q h => Or.inr h
  have hS : va_S (va_A (wM E A G z a t r h) s.heap.size) s.heap s.heap [] := va_S.rf
  have hl := lv_entry ([.ref (A 0), .int v1, .int v2]) (n := 3) (Nat.le_of_ble_eq_true rfl)
  rw [lg_entry_eq]
  generalize (lg_sl ([.ref (A 0), .int v1, .int v2]) ++ List.replicate (3 - (lg_sl ([.ref (A 0), .int v1, .int v2])).length) Slot.unset).toArray = ls at hl ⊢
  have hl : lv_has ls 3 [(0, .ref (A 0)), (1, .int v1), (2, .int v2)] := hl
  have hf26 := hts (.fieldLink RX5 26 "PhaseConverterModel" "thrown" "I") (List.mem_of_getElem? (i := 1) rfl)
  have hiX5 : ∀ w ∈ u_ws RX5 TX5 15, w ∈ wsX5_does := memIn [98, 99, 100, 101, 102, 103, 104, 105, 106, 107, 108, 109, 110, 111, 112] rfl
  refine lv_iload_n hx hb dX5_does_0 rfl (lv_at hl 1 rfl) ?_
  by_cases q_1_114 : v1 = 114
  · refine lv_lookup (off := 51) (tgt := 52) hx hb dX5_does_1 (by decide) (by rw [q_1_114]; decide) (by decide) ?_
    refine lv_aload_n hx hb dX5_does_52 rfl (lv_at hl 0 rfl) ?_
    refine lv_iload_n hx hb dX5_does_53 rfl (lv_at hl 2 rfl) ?_
    refine gv0i (As := [.int v2]) (rest := []) ⟨hx, hb, hml, hown, hts⟩ (c_X5_run l E A G z a t r h v2 hz) (cwV 1 hts gX5_does_X5_run rfl rfl rfl (by decide +kernel) ⟨Nat.le_of_ble_eq_true rfl, Nat.le_of_ble_eq_true rfl⟩) (va_recv hK hP (ci := 5) (q0 := 0) rfl rfl) hP hK hD hN hS hA rfl hl.1 rfl (Nat.le_of_ble_eq_true rfl) dX5_does_54 ⟨Nat.le_refl _, Nat.le_refl _⟩ (fun H locs hP hD hS => ?_)
    have hP : va_P E.1 vwCl (wM E A ((runF v2 z G).2) ((runF v2 z G).1) a t r h) H := hP
    have hD : va_D _ (wM E A ((runF v2 z G).2) ((runF v2 z G).1) a t r h) := hD
    refine lv_pop hx hb dX5_does_57 rfl ?_
    refine lv_goto (tgt := 98) hx hb dX5_does_58 (by decide) ?_
    refine lv_aload_n hx hb dX5_does_98 rfl (lv_at hl 0 rfl) ?_
    refine va_get (D := E.1) (ci := 5) (v := .int (((runF v2 z G).2) 0)) (C := RX5) (T := TX5) (N := 15) hx hb hts hiX5 hown hK hP 0 rfl rfl 0 (by decide) hf26 (fun _ h9 => h9) rfl dX5_does_99 ?_
    refine lv_if_ne (tgt := 109) hx hb dX5_does_102 (by decide) (fun c_102 => ?_) (fun c_102 => ?_)
    · refine lv_iconst (v := 0) hx hb dX5_does_109 (by decide) ?_
      exact gretz hx hb hr hlocks hP hD hS (by first | exact Or.inl rfl | exact Or.inr rfl) (by simp only [doesR, doesF, if_pos q_1_114, if_neg c_102]) (by simp only [doesF, if_pos q_1_114, if_neg c_102]) dX5_does_110
    · refine lv_iconst (v := 1) hx hb dX5_does_105 (by decide) ?_
      refine lv_goto (tgt := 110) hx hb dX5_does_106 (by decide) ?_
      exact gretz hx hb hr hlocks hP hD hS (by first | exact Or.inl rfl | exact Or.inr rfl) (by simp only [doesR, doesF, if_pos q_1_114, if_pos c_102]) (by simp only [doesF, if_pos q_1_114, if_pos c_102]) dX5_does_110
  by_cases q_1_115 : v1 = 115
  · refine lv_lookup (off := 35) (tgt := 36) hx hb dX5_does_1 (by decide) (by rw [q_1_115]; decide) (by decide) ?_
    refine lv_aload_n hx hb dX5_does_36 rfl (lv_at hl 0 rfl) ?_
    refine gv0i (As := []) (rest := []) ⟨hx, hb, hml, hown, hts⟩ (c_X5_start l E A G z a t r h hz) (cwV 0 hts gX5_does_X5_start rfl rfl rfl (by decide +kernel) ⟨Nat.le_of_ble_eq_true rfl, Nat.le_of_ble_eq_true rfl⟩) (va_recv hK hP (ci := 5) (q0 := 0) rfl rfl) hP hK hD hN hS hA rfl hl.1 rfl (Nat.le_of_ble_eq_true rfl) dX5_does_37 ⟨Nat.le_refl _, Nat.le_refl _⟩ (fun H locs hP hD hS => ?_)
    have hP : va_P E.1 vwCl (wM E A (upd G 0 (if runsI z = 0 then 0 else 1)) (if runsI z = 0 then startZ z else z) a t r h) H := hP
    have hD : va_D _ (wM E A (upd G 0 (if runsI z = 0 then 0 else 1)) (if runsI z = 0 then startZ z else z) a t r h) := hD
    refine lv_pop hx hb dX5_does_40 rfl ?_
    refine lv_goto (tgt := 98) hx hb dX5_does_41 (by decide) ?_
    refine lv_aload_n hx hb dX5_does_98 rfl (lv_at hl 0 rfl) ?_
    refine va_get (D := E.1) (ci := 5) (v := .int ((upd G 0 (if runsI z = 0 then 0 else 1)) 0)) (C := RX5) (T := TX5) (N := 15) hx hb hts hiX5 hown hK hP 0 rfl rfl 0 (by decide) hf26 (fun _ h9 => h9) rfl dX5_does_99 ?_
    refine lv_if_ne (tgt := 109) hx hb dX5_does_102 (by decide) (fun c_102 => ?_) (fun c_102 => ?_)
    · refine lv_iconst (v := 0) hx hb dX5_does_109 (by decide) ?_
      exact gretz hx hb hr hlocks hP hD hS (by first | exact Or.inl rfl | exact Or.inr rfl) (by simp only [doesR, doesF, if_neg q_1_114, if_pos q_1_115, if_neg c_102]) (by simp only [doesF, if_neg q_1_114, if_pos q_1_115, if_neg c_102]) dX5_does_110
    · refine lv_iconst (v := 1) hx hb dX5_does_105 (by decide) ?_
      refine lv_goto (tgt := 110) hx hb dX5_does_106 (by decide) ?_
      exact gretz hx hb hr hlocks hP hD hS (by first | exact Or.inl rfl | exact Or.inr rfl) (by simp only [doesR, doesF, if_neg q_1_114, if_pos q_1_115, if_pos c_102]) (by simp only [doesF, if_neg q_1_114, if_pos q_1_115, if_pos c_102]) dX5_does_110
  by_cases q_1_120 : v1 = 120
  · refine lv_lookup (off := 43) (tgt := 44) hx hb dX5_does_1 (by decide) (by rw [q_1_120]; decide) (by decide) ?_
    refine lv_aload_n hx hb dX5_does_44 rfl (lv_at hl 0 rfl) ?_
    refine gv0i (As := []) (rest := []) ⟨hx, hb, hml, hown, hts⟩ (c_X5_stop l E A G z a t r h hz) (cwV 0 hts gX5_does_X5_stop rfl rfl rfl (by decide +kernel) ⟨Nat.le_of_ble_eq_true rfl, Nat.le_of_ble_eq_true rfl⟩) (va_recv hK hP (ci := 5) (q0 := 0) rfl rfl) hP hK hD hN hS hA rfl hl.1 rfl (Nat.le_of_ble_eq_true rfl) dX5_does_45 ⟨Nat.le_refl _, Nat.le_refl _⟩ (fun H locs hP hD hS => ?_)
    have hP : va_P E.1 vwCl (wM E A (upd G 0 0) (stopTo 0 z) a t r h) H := hP
    have hD : va_D _ (wM E A (upd G 0 0) (stopTo 0 z) a t r h) := hD
    refine lv_pop hx hb dX5_does_48 rfl ?_
    refine lv_goto (tgt := 98) hx hb dX5_does_49 (by decide) ?_
    refine lv_aload_n hx hb dX5_does_98 rfl (lv_at hl 0 rfl) ?_
    refine va_get (D := E.1) (ci := 5) (v := .int ((upd G 0 0) 0)) (C := RX5) (T := TX5) (N := 15) hx hb hts hiX5 hown hK hP 0 rfl rfl 0 (by decide) hf26 (fun _ h9 => h9) rfl dX5_does_99 ?_
    refine lv_if_ne (tgt := 109) hx hb dX5_does_102 (by decide) (fun c_102 => ?_) (fun c_102 => ?_)
    · refine lv_iconst (v := 0) hx hb dX5_does_109 (by decide) ?_
      exact gretz hx hb hr hlocks hP hD hS (by first | exact Or.inl rfl | exact Or.inr rfl) (by simp only [doesR, doesF, if_neg q_1_114, if_neg q_1_115, if_pos q_1_120, if_neg c_102]) (by simp only [doesF, if_neg q_1_114, if_neg q_1_115, if_pos q_1_120, if_neg c_102]) dX5_does_110
    · refine lv_iconst (v := 1) hx hb dX5_does_105 (by decide) ?_
      refine lv_goto (tgt := 110) hx hb dX5_does_106 (by decide) ?_
      exact gretz hx hb hr hlocks hP hD hS (by first | exact Or.inl rfl | exact Or.inr rfl) (by simp only [doesR, doesF, if_neg q_1_114, if_neg q_1_115, if_pos q_1_120, if_pos c_102]) (by simp only [doesF, if_neg q_1_114, if_neg q_1_115, if_pos q_1_120, if_pos c_102]) dX5_does_110
  refine lv_lookup (off := 60) (tgt := 61) hx hb dX5_does_1 (by decide) ((lv_osw (k := 114) q_1_114 (by decide)).trans ((lv_osw (k := 115) q_1_115 (by decide)).trans ((lv_osw (k := 120) q_1_120 (by decide)).trans (rfl)))) (by decide) ?_
  refine lv_aload_n hx hb dX5_does_61 rfl (lv_at hl 0 rfl) ?_
  refine lv_iload_n hx hb dX5_does_62 rfl (lv_at hl 1 rfl) ?_
  refine lv_bipush (v := 105) hx hb dX5_does_63 (by decide) ?_
  obtain ⟨x_1, ex_1⟩ : ∃ y : Int32, y = (if v1 = 105 then 0 else (if v1 = 116 then 1 else (if v1 = 108 then 2 else 5))) := ⟨_, rfl⟩
  have fs : x_1 = sgnI v1 := ex_1
  have J_65 : ∀ (H : Heap) (locs : List Loc) (ls : Array Slot), va_P E.1 vwCl (wM E A G z a t r h) H → va_D (va_A (wM E A G z a t r h) s.heap.size) (wM E A G z a t r h) → va_S (va_A (wM E A G z a t r h) s.heap.size) s.heap H locs → lv_has ls 3 [(0, .ref (A 0)), (1, .int v1), (2, .int v2)] → W p l e (gR wsX5_does 6 140) s m ([.ref (A 0), .int v1, .int v2] : List Value).toArray below meth c H locs 0 0 (gMQ below E s (wM E A G z a t r h) (wM E A ((doesF v1 v2 z G).2) ((doesF v1 v2 z G).1) a t r h) (some (.int (doesR v1 v2 z G))) [.ref (A 0), .int v1, .int v2]) (F0 m 93 ls [.int x_1, .ref (A 0)]) := by
    intro H locs ls hP hD hS hl
    refine lv_iload_n hx hb dX5_does_93 rfl (lv_at hl 2 rfl) ?_
    refine gv0i (As := [.int x_1, .int v2]) (rest := []) ⟨hx, hb, hml, hown, hts⟩ (c_X5_set l E A G z a t r h x_1 v2) (cwV 2 hts gX5_does_X5_set rfl rfl rfl (by decide +kernel) ⟨Nat.le_of_ble_eq_true rfl, Nat.le_of_ble_eq_true rfl⟩) (va_recv hK hP (ci := 5) (q0 := 0) rfl rfl) hP hK hD hN hS hA rfl hl.1 rfl (Nat.le_of_ble_eq_true rfl) dX5_does_94 ⟨Nat.le_refl _, Nat.le_refl _⟩ (fun H locs hP hD hS => ?_)
    have hP : va_P E.1 vwCl (wM E A (upd G 0 (setT x_1 v2)) (setZ x_1 v2 z) a t r h) H := hP
    have hD : va_D _ (wM E A (upd G 0 (setT x_1 v2)) (setZ x_1 v2 z) a t r h) := hD
    refine lv_pop hx hb dX5_does_97 rfl ?_
    refine lv_aload_n hx hb dX5_does_98 rfl (lv_at hl 0 rfl) ?_
    refine va_get (D := E.1) (ci := 5) (v := .int ((upd G 0 (setT x_1 v2)) 0)) (C := RX5) (T := TX5) (N := 15) hx hb hts hiX5 hown hK hP 0 rfl rfl 0 (by decide) hf26 (fun _ h9 => h9) rfl dX5_does_99 ?_
    refine lv_if_ne (tgt := 109) hx hb dX5_does_102 (by decide) (fun c_102 => ?_) (fun c_102 => ?_)
    · refine lv_iconst (v := 0) hx hb dX5_does_109 (by decide) ?_
      exact gretz hx hb hr hlocks hP hD hS (by first | exact Or.inl rfl | exact Or.inr rfl) (by simp only [doesR, doesF, ← fs, if_neg q_1_114, if_neg q_1_115, if_neg q_1_120, if_neg c_102]) (by simp only [doesF, ← fs, if_neg q_1_114, if_neg q_1_115, if_neg q_1_120, if_neg c_102]) dX5_does_110
    · refine lv_iconst (v := 1) hx hb dX5_does_105 (by decide) ?_
      refine lv_goto (tgt := 110) hx hb dX5_does_106 (by decide) ?_
      exact gretz hx hb hr hlocks hP hD hS (by first | exact Or.inl rfl | exact Or.inr rfl) (by simp only [doesR, doesF, ← fs, if_neg q_1_114, if_neg q_1_115, if_neg q_1_120, if_pos c_102]) (by simp only [doesF, ← fs, if_neg q_1_114, if_neg q_1_115, if_neg q_1_120, if_pos c_102]) dX5_does_110
  refine lv_icmp_ne (tgt := 72) hx hb dX5_does_65 (by decide) (fun c_65 => ?_) (fun c_65 => ?_)
  · refine lv_iload_n hx hb dX5_does_72 rfl (lv_at hl 1 rfl) ?_
    refine lv_bipush (v := 116) hx hb dX5_does_73 (by decide) ?_
    refine lv_icmp_ne (tgt := 82) hx hb dX5_does_75 (by decide) (fun c_75 => ?_) (fun c_75 => ?_)
    · refine lv_iload_n hx hb dX5_does_82 rfl (lv_at hl 1 rfl) ?_
      refine lv_bipush (v := 108) hx hb dX5_does_83 (by decide) ?_
      refine lv_icmp_ne (tgt := 92) hx hb dX5_does_85 (by decide) (fun c_85 => ?_) (fun c_85 => ?_)
      · refine lv_iconst (v := 5) hx hb dX5_does_92 (by decide) ?_
        refine W.eq (g2 := F0 m 93 ls [.int x_1, .ref (A 0)]) (by rw [ex_1]; simp only [if_neg c_65, if_neg c_75, if_neg c_85]) ?_
        exact J_65 s.heap [] ls (hP) (hD) hS (lv_sub hl [0, 1, 2] rfl)
      · refine lv_iconst (v := 2) hx hb dX5_does_88 (by decide) ?_
        refine lv_goto (tgt := 93) hx hb dX5_does_89 (by decide) ?_
        refine W.eq (g2 := F0 m 93 ls [.int x_1, .ref (A 0)]) (by rw [ex_1]; simp only [if_neg c_65, if_neg c_75, if_pos c_85]) ?_
        exact J_65 s.heap [] ls (hP) (hD) hS (lv_sub hl [0, 1, 2] rfl)
    · refine lv_iconst (v := 1) hx hb dX5_does_78 (by decide) ?_
      refine lv_goto (tgt := 93) hx hb dX5_does_79 (by decide) ?_
      refine W.eq (g2 := F0 m 93 ls [.int x_1, .ref (A 0)]) (by rw [ex_1]; simp only [if_neg c_65, if_pos c_75]) ?_
      exact J_65 s.heap [] ls (hP) (hD) hS (lv_sub hl [0, 1, 2] rfl)
  · refine lv_iconst (v := 0) hx hb dX5_does_68 (by decide) ?_
    refine lv_goto (tgt := 93) hx hb dX5_does_69 (by decide) ?_
    refine W.eq (g2 := F0 m 93 ls [.int x_1, .ref (A 0)]) (by rw [ex_1]; simp only [if_pos c_65]) ?_
    exact J_65 s.heap [] ls (hP) (hD) hS (lv_sub hl [0, 1, 2] rfl)

set_option maxHeartbeats 4000000 in
set_option maxRecDepth 100000 in
theorem c_X5_count (l : Launch) (E : EE) (A : Nat → Nat) (G z a t r : Nat → Int32) (h : Int64) (v1 : Int32) : GM l yX5_count wsX5_count 1 22 E (wM E A G z a t r h) [.ref (A 0), .int v1] (wM E A (upd G 0 (if inRg v1 0 14 = 0 then 1 else 0)) z a t r h) (some (.int (if inRg v1 0 14 = 0 then 0 else z (placeT v1.toNatClampNeg)))) := by
  intro sz
  refine Met.ofW (cc := cX5_count) (maxL := 2) (ret := (some .int)) (by decide) rfl ?_
  intro p e s m args below meth c s₁ B hml hv
  obtain ⟨rfl, rfl, hP, hK, hD0, hN⟩ := hv
  have hx := B.exec
  have hb := B.bytes
  have hr := B.returns
  have hts := atoms_spec (ws := wsX5_count) B.pre
  have hown : s.vm.findClass RX5 = some m.cls := findClass_of_methodNamed B.named
  have hlocks := B.notSynchronized
  have hD := hD0.self (sz := s.heap.size)
  have hA : ∀ q : Nat, s.heap.size ≤ q → va_A (wM E A G z a t r h) s.heap.size q := fun q h => Or.inr h
  have hS : va_S (va_A (wM E A G z a t r h) s.heap.size) s.heap s.heap [] := va_S.rf
  have hl := lv_entry ([.ref (A 0), .int v1]) (n := 2) (Nat.le_of_ble_eq_true rfl)
  rw [lg_entry_eq]
  generalize (lg_sl ([.ref (A 0), .int v1]) ++ List.replicate (2 - (lg_sl ([.ref (A 0), .int v1])).length) Slot.unset).toArray = ls at hl ⊢
  have hl : lv_has ls 2 [(0, .ref (A 0)), (1, .int v1)] := hl
  have hf26 := hts (.fieldLink RX5 26 "PhaseConverterModel" "thrown" "I") (List.mem_of_getElem? (i := 1) rfl)
  have hf7 := hts (.fieldLink RX5 7 "PhaseConverterModel" "z" "[I") (List.mem_of_getElem? (i := 2) rfl)
  have hiX5 : ∀ w ∈ u_ws RX5 TX5 15, w ∈ wsX5_count := memIn [10, 11, 12, 13, 14, 15, 16, 17, 18, 19, 20, 21, 22, 23, 24] rfl
  refine lv_aload_n hx hb dX5_count_0 rfl (lv_at hl 0 rfl) ?_
  refine lv_iload_n hx hb dX5_count_1 rfl (lv_at hl 1 rfl) ?_
  refine lv_iconst (v := 0) hx hb dX5_count_2 (by decide) ?_
  refine lv_bipush (v := 14) hx hb dX5_count_3 (by decide) ?_
  refine gsPi (As := [.int v1, .int 0, .int 14]) (rest := [.ref (A 0)]) ⟨hx, hb, hml, hown, hts⟩ (c_X5_within l E v1 0 14) (va_cwS 3 hts gX5_count_X5_within rfl rfl rfl (by decide +kernel) ⟨Nat.le_of_ble_eq_true rfl, Nat.le_of_ble_eq_true rfl⟩) hP hK hD hN hS hA rfl hl.1 rfl (Nat.le_of_ble_eq_true rfl) dX5_count_5 ⟨Nat.le_refl _, Nat.le_refl _⟩ (fun H locs hP hD hS => ?_)
  refine lv_if_eq (tgt := 15) hx hb dX5_count_8 (by decide) (fun c_8 => ?_) (fun c_8 => ?_)
  · refine lv_iconst (v := 1) hx hb dX5_count_15 (by decide) ?_
    refine va_put (D := E.1) (ci := 5) (v := .int 1) (ty := .int) (C := RX5) (T := TX5) (N := 15) hx hb hts hiX5 tyX5 tyX5_ok nmX5 hown hK hP hD hS 0 rfl rfl 0 (by decide) hf26 (fun _ h9 => h9) rfl (by decide +kernel) rfl rfl (Nat.le_of_ble_eq_true rfl) dX5_count_16 (fun H locs hP hD hS => ?_)
    have hP : va_P E.1 vwCl (wM E A (upd G 0 1) z a t r h) H := hP
    have hD : va_D _ (wM E A (upd G 0 1) z a t r h) := hD
    refine lv_aload_n hx hb dX5_count_19 rfl (lv_at hl 0 rfl) ?_
    refine va_get (D := E.1) (ci := 5) (v := .int 1) (C := RX5) (T := TX5) (N := 15) hx hb hts hiX5 hown hK hP 0 rfl rfl 0 (by decide) hf26 (fun _ h9 => h9) rfl dX5_count_20 ?_
    refine lv_if_le (tgt := 30) hx hb dX5_count_23 (by decide) (fun c_23 => absurd c_23 (by decide)) (fun c_23 => ?_)
    refine lv_iconst (v := 0) hx hb dX5_count_26 (by decide) ?_
    refine lv_goto (tgt := 39) hx hb dX5_count_27 (by decide) ?_
    exact greti hx hb hr hlocks hP hD hS (by simp only [if_pos c_8, if_neg c_23]) (by simp only [if_pos c_8, if_neg c_23]) dX5_count_39
  · have hvv : nI v1.toNatClampNeg = v1 := (inRg_ix (n := 14) rfl c_8).1
    have hvl : v1.toNatClampNeg < 15 := (inRg_ix (n := 14) rfl c_8).2
    refine lv_iconst (v := 0) hx hb dX5_count_11 (by decide) ?_
    refine lv_goto (tgt := 16) hx hb dX5_count_12 (by decide) ?_
    refine va_put (D := E.1) (ci := 5) (v := .int 0) (ty := .int) (C := RX5) (T := TX5) (N := 15) hx hb hts hiX5 tyX5 tyX5_ok nmX5 hown hK hP hD hS 0 rfl rfl 0 (by decide) hf26 (fun _ h9 => h9) rfl (by decide +kernel) rfl rfl (Nat.le_of_ble_eq_true rfl) dX5_count_16 (fun H locs hP hD hS => ?_)
    have hP : va_P E.1 vwCl (wM E A (upd G 0 0) z a t r h) H := hP
    have hD : va_D _ (wM E A (upd G 0 0) z a t r h) := hD
    refine lv_aload_n hx hb dX5_count_19 rfl (lv_at hl 0 rfl) ?_
    refine va_get (D := E.1) (ci := 5) (v := .int 0) (C := RX5) (T := TX5) (N := 15) hx hb hts hiX5 hown hK hP 0 rfl rfl 0 (by decide) hf26 (fun _ h9 => h9) rfl dX5_count_20 ?_
    refine lv_if_le (tgt := 30) hx hb dX5_count_23 (by decide) (fun c_23 => ?_) (fun c_23 => absurd (by decide) c_23)
    refine lv_aload_n hx hb dX5_count_30 rfl (lv_at hl 0 rfl) ?_
    refine va_get (D := E.1) (ci := 5) (v := .ref (A 1)) (C := RX5) (T := TX5) (N := 15) hx hb hts hiX5 hown hK hP 0 rfl rfl 1 (by decide) hf7 (fun _ h9 => h9) rfl dX5_count_31 ?_
    refine lv_iload_n hx hb dX5_count_34 rfl (lv_at hl 1 rfl) ?_
    refine W.eq (g2 := F0 m 35 ls [.int (nI v1.toNatClampNeg), .ref (A 1)]) (by rw [hvv]) ?_
    refine gsPi (As := [.int (nI v1.toNatClampNeg)]) (rest := [.ref (A 1)]) ⟨hx, hb, hml, hown, hts⟩ (c_X5_place l E v1.toNatClampNeg (by omega)) (va_cwS 1 hts gX5_count_X5_place rfl rfl rfl (by decide +kernel) ⟨Nat.le_of_ble_eq_true rfl, Nat.le_of_ble_eq_true rfl⟩) hP hK hD hN hS hA rfl hl.1 rfl (Nat.le_of_ble_eq_true rfl) dX5_count_35 ⟨Nat.le_refl _, Nat.le_refl _⟩ (fun H locs hP hD hS => ?_)
    refine gald (x := z (placeT v1.toNatClampNeg)) hx hb hK hP 1 rfl (placeT v1.toNatClampNeg) (rfl) (placeT_lt hvl) (by decide) rfl dX5_count_38 ?_
    exact greti hx hb hr hlocks hP hD hS (by simp only [if_neg c_8, if_pos c_23]) (by simp only [if_neg c_8, if_pos c_23]) dX5_count_39

set_option maxHeartbeats 4000000 in
set_option maxRecDepth 100000 in
theorem c_X5_phase (l : Launch) (E : EE) (A : Nat → Nat) (G z a t r : Nat → Int32) (h : Int64) (v1 v2 : Int32) (hz : zOK z) : GM l yX5_phase wsX5_phase 1 22 E (wM E A G z a t r h) [.ref (A 0), .int v1, .int v2] (wM E A (upd G 0 (if inRg v1 0 (z 15 - 1) = 0 then 1 else (if inRg v2 0 6 = 0 then 2 else 0))) z a t r h) (some (.int (if inRg v1 0 (z 15 - 1) = 0 then 0 else (if inRg v2 0 6 = 0 then 0 else z (35 + 7 * v1.toNatClampNeg + v2.toNatClampNeg))))) := by
  intro sz
  refine Met.ofW (cc := cX5_phase) (maxL := 3) (ret := (some .int)) (by decide) rfl ?_
  intro p e s m args below meth c s₁ B hml hv
  obtain ⟨rfl, rfl, hP, hK, hD0, hN⟩ := hv
  have hx := B.exec
  have hb := B.bytes
  have hr := B.returns
  have hts := atoms_spec (ws := wsX5_phase) B.pre
  have hown : s.vm.findClass RX5 = some m.cls := findClass_of_methodNamed B.named
  have hlocks := B.notSynchronized
  have hD := hD0.self (sz := s.heap.size)
  have hA : ∀ q : Nat, s.heap.size ≤ q → va_A (wM E A G z a t r h) s.heap.size q := fun q h => Or.inr h
  have hS : va_S (va_A (wM E A G z a t r h) s.heap.size) s.heap s.heap [] := va_S.rf
  have hl := lv_entry ([.ref (A 0), .int v1, .int v2]) (n := 3) (Nat.le_of_ble_eq_true rfl)
  rw [lg_entry_eq]
  generalize (lg_sl ([.ref (A 0), .int v1, .int v2]) ++ List.replicate (3 - (lg_sl ([.ref (A 0), .int v1, .int v2])).length) Slot.unset).toArray = ls at hl ⊢
  have hl : lv_has ls 3 [(0, .ref (A 0)), (1, .int v1), (2, .int v2)] := hl
  have hf26 := hts (.fieldLink RX5 26 "PhaseConverterModel" "thrown" "I") (List.mem_of_getElem? (i := 2) rfl)
  have hf7 := hts (.fieldLink RX5 7 "PhaseConverterModel" "z" "[I") (List.mem_of_getElem? (i := 1) rfl)
  have hiX5 : ∀ w ∈ u_ws RX5 TX5 15, w ∈ wsX5_phase := memIn [10, 11, 12, 13, 14, 15, 16, 17, 18, 19, 20, 21, 22, 23, 24] rfl
  have hn4 := hz.2.2.1
  refine lv_aload_n hx hb dX5_phase_0 rfl (lv_at hl 0 rfl) ?_
  refine lv_iload_n hx hb dX5_phase_1 rfl (lv_at hl 1 rfl) ?_
  refine lv_iconst (v := 0) hx hb dX5_phase_2 (by decide) ?_
  refine lv_aload_n hx hb dX5_phase_3 rfl (lv_at hl 0 rfl) ?_
  refine va_get (D := E.1) (ci := 5) (v := .ref (A 1)) (C := RX5) (T := TX5) (N := 15) hx hb hts hiX5 hown hK hP 0 rfl rfl 1 (by decide) hf7 (fun _ h9 => h9) rfl dX5_phase_4 ?_
  refine lv_bipush (v := 15) hx hb dX5_phase_7 (by decide) ?_
  refine gald (x := z 15) hx hb hK hP 1 rfl 15 (rfl) (by decide) (by decide) rfl dX5_phase_9 ?_
  refine lv_iconst (v := 1) hx hb dX5_phase_10 (by decide) ?_
  refine lv_isub hx hb dX5_phase_11 ?_
  refine gsPi (As := [.int v1, .int 0, .int ((z 15) - 1)]) (rest := [.ref (A 0)]) ⟨hx, hb, hml, hown, hts⟩ (c_X5_within l E v1 0 ((z 15) - 1)) (va_cwS 3 hts gX5_phase_X5_within rfl rfl rfl (by decide +kernel) ⟨Nat.le_of_ble_eq_true rfl, Nat.le_of_ble_eq_true rfl⟩) hP hK hD hN hS hA rfl hl.1 rfl (Nat.le_of_ble_eq_true rfl) dX5_phase_12 ⟨Nat.le_refl _, Nat.le_refl _⟩ (fun H locs hP hD hS => ?_)
  refine lv_if_ne (tgt := 22) hx hb dX5_phase_15 (by decide) (fun c_15 => ?_) (fun c_15 => ?_)
  · refine lv_iload_n hx hb dX5_phase_22 rfl (lv_at hl 2 rfl) ?_
    refine lv_iconst (v := 0) hx hb dX5_phase_23 (by decide) ?_
    refine lv_bipush (v := 6) hx hb dX5_phase_24 (by decide) ?_
    refine gsPi (As := [.int v2, .int 0, .int 6]) (rest := [.ref (A 0)]) ⟨hx, hb, hml, hown, hts⟩ (c_X5_within l E v2 0 6) (va_cwS 3 hts gX5_phase_X5_within rfl rfl rfl (by decide +kernel) ⟨Nat.le_of_ble_eq_true rfl, Nat.le_of_ble_eq_true rfl⟩) hP hK hD hN hS hA rfl hl.1 rfl (Nat.le_of_ble_eq_true rfl) dX5_phase_26 ⟨Nat.le_refl _, Nat.le_refl _⟩ (fun H locs hP hD hS => ?_)
    refine lv_if_eq (tgt := 36) hx hb dX5_phase_29 (by decide) (fun c_29 => ?_) (fun c_29 => ?_)
    · refine lv_iconst (v := 2) hx hb dX5_phase_36 (by decide) ?_
      refine va_put (D := E.1) (ci := 5) (v := .int 2) (ty := .int) (C := RX5) (T := TX5) (N := 15) hx hb hts hiX5 tyX5 tyX5_ok nmX5 hown hK hP hD hS 0 rfl rfl 0 (by decide) hf26 (fun _ h9 => h9) rfl (by decide +kernel) rfl rfl (Nat.le_of_ble_eq_true rfl) dX5_phase_37 (fun H locs hP hD hS => ?_)
      have hP : va_P E.1 vwCl (wM E A (upd G 0 2) z a t r h) H := hP
      have hD : va_D _ (wM E A (upd G 0 2) z a t r h) := hD
      refine lv_aload_n hx hb dX5_phase_40 rfl (lv_at hl 0 rfl) ?_
      refine va_get (D := E.1) (ci := 5) (v := .int 2) (C := RX5) (T := TX5) (N := 15) hx hb hts hiX5 hown hK hP 0 rfl rfl 0 (by decide) hf26 (fun _ h9 => h9) rfl dX5_phase_41 ?_
      refine lv_if_le (tgt := 51) hx hb dX5_phase_44 (by decide) (fun c_44 => absurd c_44 (by decide)) (fun c_44 => ?_)
      refine lv_iconst (v := 0) hx hb dX5_phase_47 (by decide) ?_
      refine lv_goto (tgt := 61) hx hb dX5_phase_48 (by decide) ?_
      exact greti hx hb hr hlocks hP hD hS (by simp only [if_neg c_15, if_pos c_29, if_neg c_44]) (by simp only [if_neg c_15, if_pos c_29, if_neg c_44]) dX5_phase_61
    · have hv : nI v1.toNatClampNeg = v1 ∧ v1.toNatClampNeg < nOf z := by rw [hz.1] at c_15; exact inRg_ixm (by omega) c_15
      have hw := inRg_ix (n := 6) rfl c_29
      have hv2 := hv.2
      have hw2 := hw.2
      refine lv_iconst (v := 0) hx hb dX5_phase_32 (by decide) ?_
      refine lv_goto (tgt := 37) hx hb dX5_phase_33 (by decide) ?_
      refine va_put (D := E.1) (ci := 5) (v := .int 0) (ty := .int) (C := RX5) (T := TX5) (N := 15) hx hb hts hiX5 tyX5 tyX5_ok nmX5 hown hK hP hD hS 0 rfl rfl 0 (by decide) hf26 (fun _ h9 => h9) rfl (by decide +kernel) rfl rfl (Nat.le_of_ble_eq_true rfl) dX5_phase_37 (fun H locs hP hD hS => ?_)
      have hP : va_P E.1 vwCl (wM E A (upd G 0 0) z a t r h) H := hP
      have hD : va_D _ (wM E A (upd G 0 0) z a t r h) := hD
      refine lv_aload_n hx hb dX5_phase_40 rfl (lv_at hl 0 rfl) ?_
      refine va_get (D := E.1) (ci := 5) (v := .int 0) (C := RX5) (T := TX5) (N := 15) hx hb hts hiX5 hown hK hP 0 rfl rfl 0 (by decide) hf26 (fun _ h9 => h9) rfl dX5_phase_41 ?_
      refine lv_if_le (tgt := 51) hx hb dX5_phase_44 (by decide) (fun c_44 => ?_) (fun c_44 => absurd (by decide) c_44)
      refine lv_aload_n hx hb dX5_phase_51 rfl (lv_at hl 0 rfl) ?_
      refine va_get (D := E.1) (ci := 5) (v := .ref (A 1)) (C := RX5) (T := TX5) (N := 15) hx hb hts hiX5 hown hK hP 0 rfl rfl 1 (by decide) hf7 (fun _ h9 => h9) rfl dX5_phase_52 ?_
      refine lv_iload_n hx hb dX5_phase_55 rfl (lv_at hl 1 rfl) ?_
      refine lv_iload_n hx hb dX5_phase_56 rfl (lv_at hl 2 rfl) ?_
      refine W.eq (g2 := F0 m 57 ls [.int (nI v2.toNatClampNeg), .int (nI v1.toNatClampNeg), .ref (A 1)]) (by rw [hw.1, hv.1]) ?_
      refine gsPi (As := [.int (nI v1.toNatClampNeg), .int (nI v2.toNatClampNeg)]) (rest := [.ref (A 1)]) ⟨hx, hb, hml, hown, hts⟩ (c_X5_at l E v1.toNatClampNeg v2.toNatClampNeg) (va_cwS 2 hts gX5_phase_X5_at rfl rfl rfl (by decide +kernel) ⟨Nat.le_of_ble_eq_true rfl, Nat.le_of_ble_eq_true rfl⟩) hP hK hD hN hS hA rfl hl.1 rfl (Nat.le_of_ble_eq_true rfl) dX5_phase_57 ⟨Nat.le_refl _, Nat.le_refl _⟩ (fun H locs hP hD hS => ?_)
      refine gald (x := z (35 + 7 * v1.toNatClampNeg + v2.toNatClampNeg)) hx hb hK hP 1 rfl (35 + 7 * v1.toNatClampNeg + v2.toNatClampNeg) (rfl) (by omega) (by decide) rfl dX5_phase_60 ?_
      exact greti hx hb hr hlocks hP hD hS (by simp only [if_neg c_15, if_neg c_29, if_pos c_44]) (by simp only [if_neg c_15, if_neg c_29, if_pos c_44]) dX5_phase_61
  · refine lv_iconst (v := 1) hx hb dX5_phase_18 (by decide) ?_
    refine lv_goto (tgt := 37) hx hb dX5_phase_19 (by decide) ?_
    refine va_put (D := E.1) (ci := 5) (v := .int 1) (ty := .int) (C := RX5) (T := TX5) (N := 15) hx hb hts hiX5 tyX5 tyX5_ok nmX5 hown hK hP hD hS 0 rfl rfl 0 (by decide) hf26 (fun _ h9 => h9) rfl (by decide +kernel) rfl rfl (Nat.le_of_ble_eq_true rfl) dX5_phase_37 (fun H locs hP hD hS => ?_)
    have hP : va_P E.1 vwCl (wM E A (upd G 0 1) z a t r h) H := hP
    have hD : va_D _ (wM E A (upd G 0 1) z a t r h) := hD
    refine lv_aload_n hx hb dX5_phase_40 rfl (lv_at hl 0 rfl) ?_
    refine va_get (D := E.1) (ci := 5) (v := .int 1) (C := RX5) (T := TX5) (N := 15) hx hb hts hiX5 hown hK hP 0 rfl rfl 0 (by decide) hf26 (fun _ h9 => h9) rfl dX5_phase_41 ?_
    refine lv_if_le (tgt := 51) hx hb dX5_phase_44 (by decide) (fun c_44 => absurd c_44 (by decide)) (fun c_44 => ?_)
    refine lv_iconst (v := 0) hx hb dX5_phase_47 (by decide) ?_
    refine lv_goto (tgt := 61) hx hb dX5_phase_48 (by decide) ?_
    exact greti hx hb hr hlocks hP hD hS (by simp only [if_pos c_15, if_neg c_44]) (by simp only [if_pos c_15, if_neg c_44]) dX5_phase_61

set_option maxHeartbeats 4000000 in
set_option maxRecDepth 100000 in
theorem c_X5_record_ (l : Launch) (E : EE) (A : Nat → Nat) (G z a t r : Nat → Int32) (h : Int64) (v1 v2 : Int32) (K : Nat) (hK1 : z 31 = nI K) (hK2 : K ≤ 16) : GM l yX5_record_ wsX5_record_ 1 22 E (wM E A G z a t r h) [.ref (A 0), .int v1, .int v2] (wM E A (upd G 0 (if inRg v1 0 (z 31 - 1) = 0 then 1 else (if inRg v2 0 5 = 0 then 2 else 0))) z a t r h) (some (.int (if inRg v1 0 (z 31 - 1) = 0 then 0 else (if inRg v2 0 5 = 0 then 0 else z (63 + 6 * v1.toNatClampNeg + v2.toNatClampNeg))))) := by
  intro sz
  refine Met.ofW (cc := cX5_record_) (maxL := 3) (ret := (some .int)) (by decide) rfl ?_
  intro p e s m args below meth c s₁ B hml hv
  obtain ⟨rfl, rfl, hP, hK, hD0, hN⟩ := hv
  have hx := B.exec
  have hb := B.bytes
  have hr := B.returns
  have hts := atoms_spec (ws := wsX5_record_) B.pre
  have hown : s.vm.findClass RX5 = some m.cls := findClass_of_methodNamed B.named
  have hlocks := B.notSynchronized
  have hD := hD0.self (sz := s.heap.size)
  have hA : ∀ q : Nat, s.heap.size ≤ q → va_A (wM E A G z a t r h) s.heap.size q := fun q h => Or.inr h
  have hS : va_S (va_A (wM E A G z a t r h) s.heap.size) s.heap s.heap [] := va_S.rf
  have hl := lv_entry ([.ref (A 0), .int v1, .int v2]) (n := 3) (Nat.le_of_ble_eq_true rfl)
  rw [lg_entry_eq]
  generalize (lg_sl ([.ref (A 0), .int v1, .int v2]) ++ List.replicate (3 - (lg_sl ([.ref (A 0), .int v1, .int v2])).length) Slot.unset).toArray = ls at hl ⊢
  have hl : lv_has ls 3 [(0, .ref (A 0)), (1, .int v1), (2, .int v2)] := hl
  have hf26 := hts (.fieldLink RX5 26 "PhaseConverterModel" "thrown" "I") (List.mem_of_getElem? (i := 2) rfl)
  have hf7 := hts (.fieldLink RX5 7 "PhaseConverterModel" "z" "[I") (List.mem_of_getElem? (i := 1) rfl)
  have hiX5 : ∀ w ∈ u_ws RX5 TX5 15, w ∈ wsX5_record_ := memIn [7, 8, 9, 10, 11, 12, 13, 14, 15, 16, 17, 18, 19, 20, 21] rfl
  refine lv_aload_n hx hb dX5_record__0 rfl (lv_at hl 0 rfl) ?_
  refine lv_iload_n hx hb dX5_record__1 rfl (lv_at hl 1 rfl) ?_
  refine lv_iconst (v := 0) hx hb dX5_record__2 (by decide) ?_
  refine lv_aload_n hx hb dX5_record__3 rfl (lv_at hl 0 rfl) ?_
  refine va_get (D := E.1) (ci := 5) (v := .ref (A 1)) (C := RX5) (T := TX5) (N := 15) hx hb hts hiX5 hown hK hP 0 rfl rfl 1 (by decide) hf7 (fun _ h9 => h9) rfl dX5_record__4 ?_
  refine lv_bipush (v := 31) hx hb dX5_record__7 (by decide) ?_
  refine gald (x := z 31) hx hb hK hP 1 rfl 31 (rfl) (by decide) (by decide) rfl dX5_record__9 ?_
  refine lv_iconst (v := 1) hx hb dX5_record__10 (by decide) ?_
  refine lv_isub hx hb dX5_record__11 ?_
  refine gsPi (As := [.int v1, .int 0, .int ((z 31) - 1)]) (rest := [.ref (A 0)]) ⟨hx, hb, hml, hown, hts⟩ (c_X5_within l E v1 0 ((z 31) - 1)) (va_cwS 3 hts gX5_record__X5_within rfl rfl rfl (by decide +kernel) ⟨Nat.le_of_ble_eq_true rfl, Nat.le_of_ble_eq_true rfl⟩) hP hK hD hN hS hA rfl hl.1 rfl (Nat.le_of_ble_eq_true rfl) dX5_record__12 ⟨Nat.le_refl _, Nat.le_refl _⟩ (fun H locs hP hD hS => ?_)
  refine lv_if_ne (tgt := 22) hx hb dX5_record__15 (by decide) (fun c_15 => ?_) (fun c_15 => ?_)
  · refine lv_iload_n hx hb dX5_record__22 rfl (lv_at hl 2 rfl) ?_
    refine lv_iconst (v := 0) hx hb dX5_record__23 (by decide) ?_
    refine lv_iconst (v := 5) hx hb dX5_record__24 (by decide) ?_
    refine gsPi (As := [.int v2, .int 0, .int 5]) (rest := [.ref (A 0)]) ⟨hx, hb, hml, hown, hts⟩ (c_X5_within l E v2 0 5) (va_cwS 3 hts gX5_record__X5_within rfl rfl rfl (by decide +kernel) ⟨Nat.le_of_ble_eq_true rfl, Nat.le_of_ble_eq_true rfl⟩) hP hK hD hN hS hA rfl hl.1 rfl (Nat.le_of_ble_eq_true rfl) dX5_record__25 ⟨Nat.le_refl _, Nat.le_refl _⟩ (fun H locs hP hD hS => ?_)
    refine lv_if_eq (tgt := 35) hx hb dX5_record__28 (by decide) (fun c_28 => ?_) (fun c_28 => ?_)
    · refine lv_iconst (v := 2) hx hb dX5_record__35 (by decide) ?_
      refine va_put (D := E.1) (ci := 5) (v := .int 2) (ty := .int) (C := RX5) (T := TX5) (N := 15) hx hb hts hiX5 tyX5 tyX5_ok nmX5 hown hK hP hD hS 0 rfl rfl 0 (by decide) hf26 (fun _ h9 => h9) rfl (by decide +kernel) rfl rfl (Nat.le_of_ble_eq_true rfl) dX5_record__36 (fun H locs hP hD hS => ?_)
      have hP : va_P E.1 vwCl (wM E A (upd G 0 2) z a t r h) H := hP
      have hD : va_D _ (wM E A (upd G 0 2) z a t r h) := hD
      refine lv_aload_n hx hb dX5_record__39 rfl (lv_at hl 0 rfl) ?_
      refine va_get (D := E.1) (ci := 5) (v := .int 2) (C := RX5) (T := TX5) (N := 15) hx hb hts hiX5 hown hK hP 0 rfl rfl 0 (by decide) hf26 (fun _ h9 => h9) rfl dX5_record__40 ?_
      refine lv_if_le (tgt := 50) hx hb dX5_record__43 (by decide) (fun c_43 => absurd c_43 (by decide)) (fun c_43 => ?_)
      refine lv_iconst (v := 0) hx hb dX5_record__46 (by decide) ?_
      refine lv_goto (tgt := 64) hx hb dX5_record__47 (by decide) ?_
      exact greti hx hb hr hlocks hP hD hS (by simp only [if_neg c_15, if_pos c_28, if_neg c_43]) (by simp only [if_neg c_15, if_pos c_28, if_neg c_43]) dX5_record__64
    · have hv : nI v1.toNatClampNeg = v1 ∧ v1.toNatClampNeg < K := by rw [hK1] at c_15; exact inRg_ixm (by omega) c_15
      have hw := inRg_ix (n := 5) rfl c_28
      have hv2 := hv.2
      have hw2 := hw.2
      refine lv_iconst (v := 0) hx hb dX5_record__31 (by decide) ?_
      refine lv_goto (tgt := 36) hx hb dX5_record__32 (by decide) ?_
      refine va_put (D := E.1) (ci := 5) (v := .int 0) (ty := .int) (C := RX5) (T := TX5) (N := 15) hx hb hts hiX5 tyX5 tyX5_ok nmX5 hown hK hP hD hS 0 rfl rfl 0 (by decide) hf26 (fun _ h9 => h9) rfl (by decide +kernel) rfl rfl (Nat.le_of_ble_eq_true rfl) dX5_record__36 (fun H locs hP hD hS => ?_)
      have hP : va_P E.1 vwCl (wM E A (upd G 0 0) z a t r h) H := hP
      have hD : va_D _ (wM E A (upd G 0 0) z a t r h) := hD
      refine lv_aload_n hx hb dX5_record__39 rfl (lv_at hl 0 rfl) ?_
      refine va_get (D := E.1) (ci := 5) (v := .int 0) (C := RX5) (T := TX5) (N := 15) hx hb hts hiX5 hown hK hP 0 rfl rfl 0 (by decide) hf26 (fun _ h9 => h9) rfl dX5_record__40 ?_
      refine lv_if_le (tgt := 50) hx hb dX5_record__43 (by decide) (fun c_43 => ?_) (fun c_43 => absurd (by decide) c_43)
      refine lv_aload_n hx hb dX5_record__50 rfl (lv_at hl 0 rfl) ?_
      refine va_get (D := E.1) (ci := 5) (v := .ref (A 1)) (C := RX5) (T := TX5) (N := 15) hx hb hts hiX5 hown hK hP 0 rfl rfl 1 (by decide) hf7 (fun _ h9 => h9) rfl dX5_record__51 ?_
      refine lv_bipush (v := 63) hx hb dX5_record__54 (by decide) ?_
      refine lv_bipush (v := 6) hx hb dX5_record__56 (by decide) ?_
      refine lv_iload_n hx hb dX5_record__58 rfl (lv_at hl 1 rfl) ?_
      refine lv_imul hx hb dX5_record__59 ?_
      refine lv_iadd hx hb dX5_record__60 ?_
      refine lv_iload_n hx hb dX5_record__61 rfl (lv_at hl 2 rfl) ?_
      refine lv_iadd hx hb dX5_record__62 ?_
      refine gald (x := z (63 + 6 * v1.toNatClampNeg + v2.toNatClampNeg)) hx hb hK hP 1 rfl (63 + 6 * v1.toNatClampNeg + v2.toNatClampNeg) (ix63 hv.1 hw.1) (by omega) (by decide) rfl dX5_record__63 ?_
      exact greti hx hb hr hlocks hP hD hS (by simp only [if_neg c_15, if_neg c_28, if_pos c_43]) (by simp only [if_neg c_15, if_neg c_28, if_pos c_43]) dX5_record__64
  · refine lv_iconst (v := 1) hx hb dX5_record__18 (by decide) ?_
    refine lv_goto (tgt := 36) hx hb dX5_record__19 (by decide) ?_
    refine va_put (D := E.1) (ci := 5) (v := .int 1) (ty := .int) (C := RX5) (T := TX5) (N := 15) hx hb hts hiX5 tyX5 tyX5_ok nmX5 hown hK hP hD hS 0 rfl rfl 0 (by decide) hf26 (fun _ h9 => h9) rfl (by decide +kernel) rfl rfl (Nat.le_of_ble_eq_true rfl) dX5_record__36 (fun H locs hP hD hS => ?_)
    have hP : va_P E.1 vwCl (wM E A (upd G 0 1) z a t r h) H := hP
    have hD : va_D _ (wM E A (upd G 0 1) z a t r h) := hD
    refine lv_aload_n hx hb dX5_record__39 rfl (lv_at hl 0 rfl) ?_
    refine va_get (D := E.1) (ci := 5) (v := .int 1) (C := RX5) (T := TX5) (N := 15) hx hb hts hiX5 hown hK hP 0 rfl rfl 0 (by decide) hf26 (fun _ h9 => h9) rfl dX5_record__40 ?_
    refine lv_if_le (tgt := 50) hx hb dX5_record__43 (by decide) (fun c_43 => absurd c_43 (by decide)) (fun c_43 => ?_)
    refine lv_iconst (v := 0) hx hb dX5_record__46 (by decide) ?_
    refine lv_goto (tgt := 64) hx hb dX5_record__47 (by decide) ?_
    exact greti hx hb hr hlocks hP hD hS (by simp only [if_pos c_15, if_neg c_43]) (by simp only [if_pos c_15, if_neg c_43]) dX5_record__64

set_option maxHeartbeats 4000000 in
set_option maxRecDepth 100000 in
theorem c_X5_keep (l : Launch) (E : EE) (A : Nat → Nat) (G z a t r : Nat → Int32) (h : Int64) : GM l yX5_keep wsX5_keep 1 20 E (wM E A G z a t r h) [.ref (A 0)] (wM E A (layE G) z (kpL z 159 0 a) t r h) (none) := by
  intro sz
  refine Met.ofW (cc := cX5_keep) (maxL := 2) (ret := none) (by decide) rfl ?_
  intro p e s m args below meth c s₁ B hml hv
  obtain ⟨rfl, rfl, hP, hK, hD0, hN⟩ := hv
  have hx := B.exec
  have hb := B.bytes
  have hr := B.returns
  have hts := atoms_spec (ws := wsX5_keep) B.pre
  have hown : s.vm.findClass RX5 = some m.cls := findClass_of_methodNamed B.named
  have hlocks := B.notSynchronized
  have hD := hD0.self (sz := s.heap.size)
  have hA : ∀ q : Nat, s.heap.size ≤ q → va_A (wM E A G z a t r h) s.heap.size q := fun q h => Or.inr h
  have hS : va_S (va_A (wM E A G z a t r h) s.heap.size) s.heap s.heap [] := va_S.rf
  have hl := lv_entry ([.ref (A 0)]) (n := 2) (Nat.le_of_ble_eq_true rfl)
  rw [lg_entry_eq]
  generalize (lg_sl ([.ref (A 0)]) ++ List.replicate (2 - (lg_sl ([.ref (A 0)])).length) Slot.unset).toArray = ls at hl ⊢
  have hl : lv_has ls 2 [(0, .ref (A 0))] := hl
  have hf13 := hts (.fieldLink RX5 13 "PhaseConverterModel" "aside" "[I") (List.mem_of_getElem? (i := 1) rfl)
  have hf7 := hts (.fieldLink RX5 7 "PhaseConverterModel" "z" "[I") (List.mem_of_getElem? (i := 2) rfl)
  have hiX5 : ∀ w ∈ u_ws RX5 TX5 15, w ∈ wsX5_keep := memIn [12, 13, 14, 15, 16, 17, 18, 19, 20, 21, 22, 23, 24, 25, 26] rfl
  refine lv_iconst (v := 0) hx hb dX5_keep_0 (by decide) ?_
  refine lv_istore_n (lv' := [(1, .int 0), (0, .ref (A 0))]) hx hb dX5_keep_1 rfl hl (by decide) rfl (fun ls hl => ?_)
  have L_2 : ∀ (n i : Nat) (a1 : Nat → Int32) (H : Heap) (locs : List Loc) (ls : Array Slot), (i + n = 159) → (kpL z n i a1 = kpL z 159 0 a) → va_P E.1 vwCl (wM E A G z a1 t r h) H → va_D (va_A (wM E A G z a t r h) s.heap.size) (wM E A G z a1 t r h) → va_S (va_A (wM E A G z a t r h) s.heap.size) s.heap H locs → lv_has ls 2 [(1, .int (nI i)), (0, .ref (A 0))] → W p l e (gR wsX5_keep 1 20) s m ([.ref (A 0)] : List Value).toArray below meth c H locs 0 0 (gMQ below E s (wM E A G z a t r h) (wM E A (layE G) z (kpL z 159 0 a) t r h) (none) [.ref (A 0)]) (F0 m 2 ls []) := by
    intro n
    induction n with
    | zero =>
      intro i a1 H locs ls hin  hfn hP hD hS hl
      have hf : a1 = kpL z 159 0 a := hfn
      subst hf
      refine lv_iload_n hx hb dX5_keep_2 rfl (lv_at hl 0 rfl) ?_
      refine lv_sipush (v := 159) hx hb dX5_keep_3 (by decide) ?_
      refine lv_icmp_ge (tgt := 27) hx hb dX5_keep_6 (by decide) (fun c_6 => ?_) (fun c_6 => absurd (nI_le (a := 159) (by omega) (by omega)) c_6)
      refine lv_aload_n hx hb dX5_keep_27 rfl (lv_at hl 1 rfl) ?_
      refine gv0v (As := []) (rest := []) ⟨hx, hb, hml, hown, hts⟩ (c_X5_layExtremes l E A G z (kpL z 159 0 a) t r h) (cwV 0 hts gX5_keep_X5_layExtremes rfl rfl rfl (by decide +kernel) ⟨Nat.le_of_ble_eq_true rfl, Nat.le_of_ble_eq_true rfl⟩) (va_recv hK hP (ci := 5) (q0 := 0) rfl rfl) hP hK hD hN hS hA rfl hl.1 rfl (Nat.le_of_ble_eq_true rfl) dX5_keep_28 ⟨Nat.le_refl _, Nat.le_refl _⟩ (fun H locs hP hD hS => ?_)
      have hP : va_P E.1 vwCl (wM E A (layE G) z (kpL z 159 0 a) t r h) H := hP
      have hD : va_D _ (wM E A (layE G) z (kpL z 159 0 a) t r h) := hD
      exact gretv hx hb hr hlocks hP hD hS (rfl) dX5_keep_31
    | succ n ih =>
      intro i a1 H locs ls hin  hfn hP hD hS hl
      refine lv_iload_n hx hb dX5_keep_2 rfl (lv_at hl 0 rfl) ?_
      refine lv_sipush (v := 159) hx hb dX5_keep_3 (by decide) ?_
      refine lv_icmp_ge (tgt := 27) hx hb dX5_keep_6 (by decide) (fun c_6 => absurd c_6 (nI_ge (b := 159) (by omega) (by omega))) (fun c_6 => ?_)
      refine lv_aload_n hx hb dX5_keep_9 rfl (lv_at hl 1 rfl) ?_
      refine va_get (D := E.1) (ci := 5) (v := .ref (A 2)) (C := RX5) (T := TX5) (N := 15) hx hb hts hiX5 hown hK hP 0 rfl rfl 2 (by decide) hf13 (fun _ h9 => h9) rfl dX5_keep_10 ?_
      refine lv_iload_n hx hb dX5_keep_13 rfl (lv_at hl 0 rfl) ?_
      refine lv_aload_n hx hb dX5_keep_14 rfl (lv_at hl 1 rfl) ?_
      refine va_get (D := E.1) (ci := 5) (v := .ref (A 1)) (C := RX5) (T := TX5) (N := 15) hx hb hts hiX5 hown hK hP 0 rfl rfl 1 (by decide) hf7 (fun _ h9 => h9) rfl dX5_keep_15 ?_
      refine lv_iload_n hx hb dX5_keep_18 rfl (lv_at hl 0 rfl) ?_
      refine gald (x := z i) hx hb hK hP 1 rfl i (rfl) (by omega) (by decide) rfl dX5_keep_19 ?_
      refine gast hx hb hK hP hD hS 2 rfl i (rfl) (by omega) (by decide) dX5_keep_20 (fun H locs hP hD hS => ?_)
      have hP : va_P E.1 vwCl (wM E A G z (upd a1 i (z i)) t r h) H := hP
      have hD : va_D _ (wM E A G z (upd a1 i (z i)) t r h) := hD
      refine lv_iinc (v := nI (i + 1)) (lv' := [(1, .int (nI (i + 1))), (0, .ref (A 0))]) hx hb dX5_keep_21 hl (k := 0) rfl (nI_1 _) (by decide) rfl (fun ls hl => ?_)
      refine lv_goto (tgt := 2) hx hb dX5_keep_24 (by decide) ?_
      exact ih (i + 1) (upd a1 i (z i)) H locs ls (by omega)  (hfn) hP hD hS (lv_sub hl [0, 1] rfl)
  exact L_2 (159) (0) a s.heap [] ls (by omega)  rfl hP hD hS (lv_sub hl [0, 1] rfl)

set_option maxHeartbeats 4000000 in
set_option maxRecDepth 100000 in
theorem c_X5_takeBack (l : Launch) (E : EE) (A : Nat → Nat) (G z a t r : Nat → Int32) (h : Int64) : GM l yX5_takeBack wsX5_takeBack 0 0 E (wM E A G z a t r h) [.ref (A 0)] (wM E A G (kpL a 159 0 z) a t r h) (none) := by
  intro sz
  refine Met.ofW (cc := cX5_takeBack) (maxL := 2) (ret := none) (by decide) rfl ?_
  intro p e s m args below meth c s₁ B hml hv
  obtain ⟨rfl, rfl, hP, hK, hD0, hN⟩ := hv
  have hx := B.exec
  have hb := B.bytes
  have hr := B.returns
  have hts := atoms_spec (ws := wsX5_takeBack) B.pre
  have hown : s.vm.findClass RX5 = some m.cls := findClass_of_methodNamed B.named
  have hlocks := B.notSynchronized
  have hD := hD0.self (sz := s.heap.size)
  have hA : ∀ q : Nat, s.heap.size ≤ q → va_A (wM E A G z a t r h) s.heap.size q := fun q h => Or.inr h
  have hS : va_S (va_A (wM E A G z a t r h) s.heap.size) s.heap s.heap [] := va_S.rf
  have hl := lv_entry ([.ref (A 0)]) (n := 2) (Nat.le_of_ble_eq_true rfl)
  rw [lg_entry_eq]
  generalize (lg_sl ([.ref (A 0)]) ++ List.replicate (2 - (lg_sl ([.ref (A 0)])).length) Slot.unset).toArray = ls at hl ⊢
  have hl : lv_has ls 2 [(0, .ref (A 0))] := hl
  have hf13 := hts (.fieldLink RX5 13 "PhaseConverterModel" "aside" "[I") (List.mem_of_getElem? (i := 2) rfl)
  have hf7 := hts (.fieldLink RX5 7 "PhaseConverterModel" "z" "[I") (List.mem_of_getElem? (i := 1) rfl)
  have hiX5 : ∀ w ∈ u_ws RX5 TX5 15, w ∈ wsX5_takeBack := memIn [3, 4, 5, 6, 7, 8, 9, 10, 11, 12, 13, 14, 15, 16, 17] rfl
  refine lv_iconst (v := 0) hx hb dX5_takeBack_0 (by decide) ?_
  refine lv_istore_n (lv' := [(1, .int 0), (0, .ref (A 0))]) hx hb dX5_takeBack_1 rfl hl (by decide) rfl (fun ls hl => ?_)
  have L_2 : ∀ (n i : Nat) (z1 : Nat → Int32) (H : Heap) (locs : List Loc) (ls : Array Slot), (i + n = 159) → (kpL a n i z1 = kpL a 159 0 z) → va_P E.1 vwCl (wM E A G z1 a t r h) H → va_D (va_A (wM E A G z a t r h) s.heap.size) (wM E A G z1 a t r h) → va_S (va_A (wM E A G z a t r h) s.heap.size) s.heap H locs → lv_has ls 2 [(1, .int (nI i)), (0, .ref (A 0))] → W p l e (gR wsX5_takeBack 0 0) s m ([.ref (A 0)] : List Value).toArray below meth c H locs 0 0 (gMQ below E s (wM E A G z a t r h) (wM E A G (kpL a 159 0 z) a t r h) (none) [.ref (A 0)]) (F0 m 2 ls []) := by
    intro n
    induction n with
    | zero =>
      intro i z1 H locs ls hin  hfn hP hD hS hl
      have hf : z1 = kpL a 159 0 z := hfn
      subst hf
      refine lv_iload_n hx hb dX5_takeBack_2 rfl (lv_at hl 0 rfl) ?_
      refine lv_sipush (v := 159) hx hb dX5_takeBack_3 (by decide) ?_
      refine lv_icmp_ge (tgt := 27) hx hb dX5_takeBack_6 (by decide) (fun c_6 => ?_) (fun c_6 => absurd (nI_le (a := 159) (by omega) (by omega)) c_6)
      exact gretv hx hb hr hlocks hP hD hS (rfl) dX5_takeBack_27
    | succ n ih =>
      intro i z1 H locs ls hin  hfn hP hD hS hl
      refine lv_iload_n hx hb dX5_takeBack_2 rfl (lv_at hl 0 rfl) ?_
      refine lv_sipush (v := 159) hx hb dX5_takeBack_3 (by decide) ?_
      refine lv_icmp_ge (tgt := 27) hx hb dX5_takeBack_6 (by decide) (fun c_6 => absurd c_6 (nI_ge (b := 159) (by omega) (by omega))) (fun c_6 => ?_)
      refine lv_aload_n hx hb dX5_takeBack_9 rfl (lv_at hl 1 rfl) ?_
      refine va_get (D := E.1) (ci := 5) (v := .ref (A 1)) (C := RX5) (T := TX5) (N := 15) hx hb hts hiX5 hown hK hP 0 rfl rfl 1 (by decide) hf7 (fun _ h9 => h9) rfl dX5_takeBack_10 ?_
      refine lv_iload_n hx hb dX5_takeBack_13 rfl (lv_at hl 0 rfl) ?_
      refine lv_aload_n hx hb dX5_takeBack_14 rfl (lv_at hl 1 rfl) ?_
      refine va_get (D := E.1) (ci := 5) (v := .ref (A 2)) (C := RX5) (T := TX5) (N := 15) hx hb hts hiX5 hown hK hP 0 rfl rfl 2 (by decide) hf13 (fun _ h9 => h9) rfl dX5_takeBack_15 ?_
      refine lv_iload_n hx hb dX5_takeBack_18 rfl (lv_at hl 0 rfl) ?_
      refine gald (x := a i) hx hb hK hP 2 rfl i (rfl) (by omega) (by decide) rfl dX5_takeBack_19 ?_
      refine gast hx hb hK hP hD hS 1 rfl i (rfl) (by omega) (by decide) dX5_takeBack_20 (fun H locs hP hD hS => ?_)
      have hP : va_P E.1 vwCl (wM E A G (upd z1 i (a i)) a t r h) H := hP
      have hD : va_D _ (wM E A G (upd z1 i (a i)) a t r h) := hD
      refine lv_iinc (v := nI (i + 1)) (lv' := [(1, .int (nI (i + 1))), (0, .ref (A 0))]) hx hb dX5_takeBack_21 hl (k := 0) rfl (nI_1 _) (by decide) rfl (fun ls hl => ?_)
      refine lv_goto (tgt := 2) hx hb dX5_takeBack_24 (by decide) ?_
      exact ih (i + 1) (upd z1 i (a i)) H locs ls (by omega)  (hfn) hP hD hS (lv_sub hl [0, 1] rfl)
  exact L_2 (159) (0) z s.heap [] ls (by omega)  rfl hP hD hS (lv_sub hl [0, 1] rfl)

set_option maxHeartbeats 4000000 in
set_option maxRecDepth 100000 in
theorem c_X5_mix (l : Launch) (E : EE) (A : Nat → Nat) (G z a t r : Nat → Int32) (h : Int64) (v1 : Int64) : GM l yX5_mix wsX5_mix 0 0 E (wM E A G z a t r h) [.ref (A 0), .long v1] (wM E A G z a t r (31 * h + v1)) (none) := by
  intro sz
  refine Met.ofW (cc := cX5_mix) (maxL := 3) (ret := none) (by decide) rfl ?_
  intro p e s m args below meth c s₁ B hml hv
  obtain ⟨rfl, rfl, hP, hK, hD0, hN⟩ := hv
  have hx := B.exec
  have hb := B.bytes
  have hr := B.returns
  have hts := atoms_spec (ws := wsX5_mix) B.pre
  have hown : s.vm.findClass RX5 = some m.cls := findClass_of_methodNamed B.named
  have hlocks := B.notSynchronized
  have hD := hD0.self (sz := s.heap.size)
  have hA : ∀ q : Nat, s.heap.size ≤ q → va_A (wM E A G z a t r h) s.heap.size q := fun q h => Or.inr h
  have hS : va_S (va_A (wM E A G z a t r h) s.heap.size) s.heap s.heap [] := va_S.rf
  have hl := lv_entry ([.ref (A 0), .long v1]) (n := 3) (Nat.le_of_ble_eq_true rfl)
  rw [lg_entry_eq]
  generalize (lg_sl ([.ref (A 0), .long v1]) ++ List.replicate (3 - (lg_sl ([.ref (A 0), .long v1])).length) Slot.unset).toArray = ls at hl ⊢
  have hl : lv_has ls 3 [(0, .ref (A 0)), (1, .long v1)] := hl
  have hf177 := hts (.fieldLink RX5 177 "PhaseConverterModel" "h" "J") (List.mem_of_getElem? (i := 2) rfl)
  have hiX5 : ∀ w ∈ u_ws RX5 TX5 15, w ∈ wsX5_mix := memIn [3, 4, 5, 6, 7, 8, 9, 10, 11, 12, 13, 14, 15, 16, 17] rfl
  refine lv_aload_n hx hb dX5_mix_0 rfl (lv_at hl 0 rfl) ?_
  refine lv_ldc2 (own := RX5) (v := 31) hx hb hown (hts (.constantLong RX5 175 (31)) (List.mem_of_getElem? (i := 1) rfl)) dX5_mix_1 ?_
  refine lv_aload_n hx hb dX5_mix_4 rfl (lv_at hl 0 rfl) ?_
  refine va_get (D := E.1) (ci := 5) (v := .long h) (C := RX5) (T := TX5) (N := 15) hx hb hts hiX5 hown hK hP 0 rfl rfl 14 (by decide) hf177 (fun _ h9 => h9) rfl dX5_mix_5 ?_
  refine lv_lmul hx hb dX5_mix_8 ?_
  refine lv_lload_n hx hb dX5_mix_9 rfl (lv_at hl 1 rfl) ?_
  refine lv_ladd hx hb dX5_mix_10 ?_
  refine va_put (D := E.1) (ci := 5) (v := .long ((31 * h) + v1)) (ty := .long) (C := RX5) (T := TX5) (N := 15) hx hb hts hiX5 tyX5 tyX5_ok nmX5 hown hK hP hD hS 0 rfl rfl 14 (by decide) hf177 (fun _ h9 => h9) rfl (by decide +kernel) rfl rfl (Nat.le_of_ble_eq_true rfl) dX5_mix_11 (fun H locs hP hD hS => ?_)
  have hP : va_P E.1 vwCl (wM E A G z a t r ((31 * h) + v1)) H := hP
  have hD : va_D _ (wM E A G z a t r ((31 * h) + v1)) := hD
  exact gretv hx hb hr hlocks hP hD hS (rfl) dX5_mix_14

set_option maxHeartbeats 4000000 in
set_option maxRecDepth 100000 in
theorem c_X5_unlike (l : Launch) (E : EE) (A : Nat → Nat) (G z a t r : Nat → Int32) (h : Int64) (hz : zOK z) : GM l yX5_unlike wsX5_unlike 1 21 E (wM E A G z a t r h) [.ref (A 0)] (wM E A G z a t r h) (some (.int (unlike z))) := by
  intro sz
  refine Met.ofW (cc := cX5_unlike) (maxL := 5) (ret := (some .int)) (by decide) rfl ?_
  intro p e s m args below meth c s₁ B hml hv
  obtain ⟨rfl, rfl, hP, hK, hD0, hN⟩ := hv
  have hx := B.exec
  have hb := B.bytes
  have hr := B.returns
  have hts := atoms_spec (ws := wsX5_unlike) B.pre
  have hown : s.vm.findClass RX5 = some m.cls := findClass_of_methodNamed B.named
  have hlocks := B.notSynchronized
  have hD := hD0.self (sz := s.heap.size)
  have hA : ∀ q : Nat, s.heap.size ≤ q → va_A (wM E A G z a t r h) s.heap.size q := fun q h => Or.inr h
  have hS : va_S (va_A (wM E A G z a t r h) s.heap.size) s.heap s.heap [] := va_S.rf
  have hl := lv_entry ([.ref (A 0)]) (n := 5) (Nat.le_of_ble_eq_true rfl)
  rw [lg_entry_eq]
  generalize (lg_sl ([.ref (A 0)]) ++ List.replicate (5 - (lg_sl ([.ref (A 0)])).length) Slot.unset).toArray = ls at hl ⊢
  have hl : lv_has ls 5 [(0, .ref (A 0))] := hl
  have hf7 := hts (.fieldLink RX5 7 "PhaseConverterModel" "z" "[I") (List.mem_of_getElem? (i := 1) rfl)
  have hiX5 : ∀ w ∈ u_ws RX5 TX5 15, w ∈ wsX5_unlike := memIn [6, 7, 8, 9, 10, 11, 12, 13, 14, 15, 16, 17, 18, 19, 20] rfl
  have hn4 := hz.2.2.1
  have hm1 := hz.2.2.2.2.1
  have hmn := hz.2.2.2.2.2.1
  refine lv_aload_n hx hb dX5_unlike_0 rfl (lv_at hl 0 rfl) ?_
  refine va_get (D := E.1) (ci := 5) (v := .ref (A 1)) (C := RX5) (T := TX5) (N := 15) hx hb hts hiX5 hown hK hP 0 rfl rfl 1 (by decide) hf7 (fun _ h9 => h9) rfl dX5_unlike_1 ?_
  refine lv_iconst (v := 0) hx hb dX5_unlike_4 (by decide) ?_
  refine lv_iconst (v := 0) hx hb dX5_unlike_5 (by decide) ?_
  refine gsPi (As := [.int 0, .int 0]) (rest := [.ref (A 1)]) ⟨hx, hb, hml, hown, hts⟩ (c_X5_at l E 0 0) (va_cwS 2 hts gX5_unlike_X5_at rfl rfl rfl (by decide +kernel) ⟨Nat.le_of_ble_eq_true rfl, Nat.le_of_ble_eq_true rfl⟩) hP hK hD hN hS hA rfl hl.1 rfl (Nat.le_of_ble_eq_true rfl) dX5_unlike_6 ⟨Nat.le_refl _, Nat.le_refl _⟩ (fun H locs hP hD hS => ?_)
  refine gald (x := z (35 + 7 * 0 + 0)) hx hb hK hP 1 rfl (35 + 7 * 0 + 0) (rfl) (by omega) (by decide) rfl dX5_unlike_9 ?_
  refine lv_istore_n (lv' := [(1, .int (z (35 + 7 * 0 + 0))), (0, .ref (A 0))]) hx hb dX5_unlike_10 rfl hl (by decide) rfl (fun ls hl => ?_)
  refine lv_iload_n hx hb dX5_unlike_11 rfl (lv_at hl 0 rfl) ?_
  refine lv_istore_n (lv' := [(2, .int (z (35 + 7 * 0 + 0))), (1, .int (z (35 + 7 * 0 + 0))), (0, .ref (A 0))]) hx hb dX5_unlike_12 rfl hl (by decide) rfl (fun ls hl => ?_)
  refine lv_iconst (v := 1) hx hb dX5_unlike_13 (by decide) ?_
  refine lv_istore_n (lv' := [(3, .int 1), (2, .int (z (35 + 7 * 0 + 0))), (1, .int (z (35 + 7 * 0 + 0))), (0, .ref (A 0))]) hx hb dX5_unlike_14 rfl hl (by decide) rfl (fun ls hl => ?_)
  have L_15 : ∀ (n i : Nat) (y1 : Int32) (y2 : Int32) (H : Heap) (locs : List Loc) (ls : Array Slot), (i + n = mOf z) → (unL z n i y1 y2 = unL z (mOf z - 1) 1 (z (35 + 7 * 0 + 0)) (z (35 + 7 * 0 + 0))) → va_P E.1 vwCl (wM E A G z a t r h) H → va_D (va_A (wM E A G z a t r h) s.heap.size) (wM E A G z a t r h) → va_S (va_A (wM E A G z a t r h) s.heap.size) s.heap H locs → lv_has ls 5 [(3, .int (nI i)), (2, .int y2), (1, .int y1), (0, .ref (A 0))] → W p l e (gR wsX5_unlike 1 21) s m ([.ref (A 0)] : List Value).toArray below meth c H locs 0 0 (gMQ below E s (wM E A G z a t r h) (wM E A G z a t r h) (some (.int (unlike z))) [.ref (A 0)]) (F0 m 15 ls []) := by
    intro n
    induction n with
    | zero =>
      intro i y1 y2 H locs ls hin  hfn hP hD hS hl
      have hf : y2 - y1 = unlike z := hfn
      refine lv_iload_n hx hb dX5_unlike_15 rfl (lv_at hl 0 rfl) ?_
      refine lv_aload_n hx hb dX5_unlike_16 rfl (lv_at hl 3 rfl) ?_
      refine va_get (D := E.1) (ci := 5) (v := .ref (A 1)) (C := RX5) (T := TX5) (N := 15) hx hb hts hiX5 hown hK hP 0 rfl rfl 1 (by decide) hf7 (fun _ h9 => h9) rfl dX5_unlike_17 ?_
      refine lv_bipush (v := 16) hx hb dX5_unlike_20 (by decide) ?_
      refine gald (x := z 16) hx hb hK hP 1 rfl 16 (rfl) (by decide) (by decide) rfl dX5_unlike_22 ?_
      refine lv_icmp_ge (tgt := 70) hx hb dX5_unlike_23 (by decide) (fun c_23 => ?_) (fun c_23 => absurd (by rw [hz.2.2.2.1]; exact nI_le (by omega) (by omega)) c_23)
      refine lv_iload_n hx hb dX5_unlike_70 rfl (lv_at hl 1 rfl) ?_
      refine lv_iload_n hx hb dX5_unlike_71 rfl (lv_at hl 2 rfl) ?_
      refine lv_isub hx hb dX5_unlike_72 ?_
      exact greti hx hb hr hlocks hP hD hS (hf) (rfl) dX5_unlike_73
    | succ n ih =>
      intro i y1 y2 H locs ls hin  hfn hP hD hS hl
      refine lv_iload_n hx hb dX5_unlike_15 rfl (lv_at hl 0 rfl) ?_
      refine lv_aload_n hx hb dX5_unlike_16 rfl (lv_at hl 3 rfl) ?_
      refine va_get (D := E.1) (ci := 5) (v := .ref (A 1)) (C := RX5) (T := TX5) (N := 15) hx hb hts hiX5 hown hK hP 0 rfl rfl 1 (by decide) hf7 (fun _ h9 => h9) rfl dX5_unlike_17 ?_
      refine lv_bipush (v := 16) hx hb dX5_unlike_20 (by decide) ?_
      refine gald (x := z 16) hx hb hK hP 1 rfl 16 (rfl) (by decide) (by decide) rfl dX5_unlike_22 ?_
      refine lv_icmp_ge (tgt := 70) hx hb dX5_unlike_23 (by decide) (fun c_23 => absurd c_23 (by rw [hz.2.2.2.1]; exact nI_ge (by omega) (by omega))) (fun c_23 => ?_)
      refine lv_aload_n hx hb dX5_unlike_26 rfl (lv_at hl 3 rfl) ?_
      refine va_get (D := E.1) (ci := 5) (v := .ref (A 1)) (C := RX5) (T := TX5) (N := 15) hx hb hts hiX5 hown hK hP 0 rfl rfl 1 (by decide) hf7 (fun _ h9 => h9) rfl dX5_unlike_27 ?_
      refine lv_iload_n hx hb dX5_unlike_30 rfl (lv_at hl 0 rfl) ?_
      refine lv_iconst (v := 0) hx hb dX5_unlike_31 (by decide) ?_
      refine gsPi (As := [.int (nI i), .int 0]) (rest := [.ref (A 1)]) ⟨hx, hb, hml, hown, hts⟩ (c_X5_at l E i 0) (va_cwS 2 hts gX5_unlike_X5_at rfl rfl rfl (by decide +kernel) ⟨Nat.le_of_ble_eq_true rfl, Nat.le_of_ble_eq_true rfl⟩) hP hK hD hN hS hA rfl hl.1 rfl (Nat.le_of_ble_eq_true rfl) dX5_unlike_32 ⟨Nat.le_refl _, Nat.le_refl _⟩ (fun H locs hP hD hS => ?_)
      refine gald (x := z (35 + 7 * i + 0)) hx hb hK hP 1 rfl (35 + 7 * i + 0) (rfl) (by omega) (by decide) rfl dX5_unlike_35 ?_
      refine lv_istore (lv' := [(4, .int (z (35 + 7 * i + 0))), (3, .int (nI i)), (2, .int y2), (1, .int y1), (0, .ref (A 0))]) hx hb dX5_unlike_36 hl (by decide) rfl (fun ls hl => ?_)
      refine lv_iload hx hb dX5_unlike_38 (lv_at hl 0 rfl) ?_
      refine lv_iload_n hx hb dX5_unlike_40 rfl (lv_at hl 3 rfl) ?_
      obtain ⟨x_1, ex_1⟩ : ∃ y : Int32, y = (if y1 ≤ (z (35 + 7 * i + 0)) then y1 else z (35 + 7 * i + 0)) := ⟨_, rfl⟩
      have fl : x_1 = (if y1 ≤ z (35 + 7 * i + 0) then y1 else z (35 + 7 * i + 0)) := ex_1
      have J_41 : ∀ (H : Heap) (locs : List Loc) (ls : Array Slot), va_P E.1 vwCl (wM E A G z a t r h) H → va_D (va_A (wM E A G z a t r h) s.heap.size) (wM E A G z a t r h) → va_S (va_A (wM E A G z a t r h) s.heap.size) s.heap H locs → lv_has ls 5 [(4, .int (z (35 + 7 * i + 0))), (3, .int (nI i)), (2, .int y2), (1, .int y1), (0, .ref (A 0))] → W p l e (gR wsX5_unlike 1 21) s m ([.ref (A 0)] : List Value).toArray below meth c H locs 0 0 (gMQ below E s (wM E A G z a t r h) (wM E A G z a t r h) (some (.int (unlike z))) [.ref (A 0)]) (F0 m 50 ls [.int x_1]) := by
        intro H locs ls hP hD hS hl
        refine lv_istore_n (lv' := [(1, .int x_1), (4, .int (z (35 + 7 * i + 0))), (3, .int (nI i)), (2, .int y2), (0, .ref (A 0))]) hx hb dX5_unlike_50 rfl hl (by decide) rfl (fun ls hl => ?_)
        refine lv_iload hx hb dX5_unlike_51 (lv_at hl 1 rfl) ?_
        refine lv_iload_n hx hb dX5_unlike_53 rfl (lv_at hl 3 rfl) ?_
        obtain ⟨x_2, ex_2⟩ : ∃ y : Int32, y = (if (z (35 + 7 * i + 0)) ≤ y2 then y2 else z (35 + 7 * i + 0)) := ⟨_, rfl⟩
        have fh : x_2 = (if z (35 + 7 * i + 0) ≤ y2 then y2 else z (35 + 7 * i + 0)) := ex_2
        have J_54 : ∀ (H : Heap) (locs : List Loc) (ls : Array Slot), va_P E.1 vwCl (wM E A G z a t r h) H → va_D (va_A (wM E A G z a t r h) s.heap.size) (wM E A G z a t r h) → va_S (va_A (wM E A G z a t r h) s.heap.size) s.heap H locs → lv_has ls 5 [(1, .int x_1), (4, .int (z (35 + 7 * i + 0))), (3, .int (nI i)), (2, .int y2), (0, .ref (A 0))] → W p l e (gR wsX5_unlike 1 21) s m ([.ref (A 0)] : List Value).toArray below meth c H locs 0 0 (gMQ below E s (wM E A G z a t r h) (wM E A G z a t r h) (some (.int (unlike z))) [.ref (A 0)]) (F0 m 63 ls [.int x_2]) := by
          intro H locs ls hP hD hS hl
          refine lv_istore_n (lv' := [(2, .int x_2), (1, .int x_1), (4, .int (z (35 + 7 * i + 0))), (3, .int (nI i)), (0, .ref (A 0))]) hx hb dX5_unlike_63 rfl hl (by decide) rfl (fun ls hl => ?_)
          refine lv_iinc (v := nI (i + 1)) (lv' := [(3, .int (nI (i + 1))), (2, .int x_2), (1, .int x_1), (4, .int (z (35 + 7 * i + 0))), (0, .ref (A 0))]) hx hb dX5_unlike_64 hl (k := 3) rfl (nI_1 _) (by decide) rfl (fun ls hl => ?_)
          refine lv_goto (tgt := 15) hx hb dX5_unlike_67 (by decide) ?_
          exact ih (i + 1) x_1 x_2 H locs ls (by omega)  (by rw [fl, fh]; exact hfn) hP hD hS (lv_sub hl [0, 1, 2, 4] rfl)
        refine lv_icmp_le (tgt := 62) hx hb dX5_unlike_54 (by decide) (fun c_54 => ?_) (fun c_54 => ?_)
        · refine lv_iload_n hx hb dX5_unlike_62 rfl (lv_at hl 3 rfl) ?_
          refine W.eq (g2 := F0 m 63 ls [.int x_2]) (by rw [ex_2]; simp only [if_pos c_54]) ?_
          exact J_54 H locs ls (hP) (hD) hS (lv_sub hl [0, 1, 2, 3, 4] rfl)
        · refine lv_iload hx hb dX5_unlike_57 (lv_at hl 1 rfl) ?_
          refine lv_goto (tgt := 63) hx hb dX5_unlike_59 (by decide) ?_
          refine W.eq (g2 := F0 m 63 ls [.int x_2]) (by rw [ex_2]; simp only [if_neg c_54]) ?_
          exact J_54 H locs ls (hP) (hD) hS (lv_sub hl [0, 1, 2, 3, 4] rfl)
      refine lv_icmp_ge (tgt := 49) hx hb dX5_unlike_41 (by decide) (fun c_41 => ?_) (fun c_41 => ?_)
      · refine lv_iload_n hx hb dX5_unlike_49 rfl (lv_at hl 3 rfl) ?_
        refine W.eq (g2 := F0 m 50 ls [.int x_1]) (by rw [ex_1]; simp only [if_pos c_41]) ?_
        exact J_41 H locs ls (hP) (hD) hS (lv_sub hl [0, 1, 2, 3, 4] rfl)
      · refine lv_iload hx hb dX5_unlike_44 (lv_at hl 0 rfl) ?_
        refine lv_goto (tgt := 50) hx hb dX5_unlike_46 (by decide) ?_
        refine W.eq (g2 := F0 m 50 ls [.int x_1]) (by rw [ex_1]; simp only [if_neg c_41]) ?_
        exact J_41 H locs ls (hP) (hD) hS (lv_sub hl [0, 1, 2, 3, 4] rfl)
  exact L_15 (mOf z - 1) (1) (z (35 + 7 * 0 + 0)) (z (35 + 7 * 0 + 0)) H locs ls (by omega)  rfl hP hD hS (lv_sub hl [0, 1, 2, 3] rfl)

set_option maxHeartbeats 4000000 in
set_option maxRecDepth 100000 in
theorem c_X5_unbalance (l : Launch) (E : EE) (A : Nat → Nat) (G z a t r : Nat → Int32) (h : Int64) (hz : zOK z) : GM l yX5_unbalance wsX5_unbalance 2 45 E (wM E A G z a t r h) [.ref (A 0)] (wM E A (upd G 0 0) z a t r h) (some (.int (unlike z))) := by
  intro sz
  refine Met.ofW (cc := cX5_unbalance) (maxL := 1) (ret := (some .int)) (by decide) rfl ?_
  intro p e s m args below meth c s₁ B hml hv
  obtain ⟨rfl, rfl, hP, hK, hD0, hN⟩ := hv
  have hx := B.exec
  have hb := B.bytes
  have hr := B.returns
  have hts := atoms_spec (ws := wsX5_unbalance) B.pre
  have hown : s.vm.findClass RX5 = some m.cls := findClass_of_methodNamed B.named
  have hlocks := B.notSynchronized
  have hD := hD0.self (sz := s.heap.size)
  have hA : ∀ q : Nat, s.heap.size ≤ q → va_A (wM E A G z a t r h) s.heap.size q := fun q h => Or.inr h
  have hS : va_S (va_A (wM E A G z a t r h) s.heap.size) s.heap s.heap [] := va_S.rf
  have hl := lv_entry ([.ref (A 0)]) (n := 1) (Nat.le_of_ble_eq_true rfl)
  rw [lg_entry_eq]
  generalize (lg_sl ([.ref (A 0)]) ++ List.replicate (1 - (lg_sl ([.ref (A 0)])).length) Slot.unset).toArray = ls at hl ⊢
  have hl : lv_has ls 1 [(0, .ref (A 0))] := hl
  have hf26 := hts (.fieldLink RX5 26 "PhaseConverterModel" "thrown" "I") (List.mem_of_getElem? (i := 1) rfl)
  have hiX5 : ∀ w ∈ u_ws RX5 TX5 15, w ∈ wsX5_unbalance := memIn [11, 12, 13, 14, 15, 16, 17, 18, 19, 20, 21, 22, 23, 24, 25] rfl
  refine lv_aload_n hx hb dX5_unbalance_0 rfl (lv_at hl 0 rfl) ?_
  refine lv_iconst (v := 0) hx hb dX5_unbalance_1 (by decide) ?_
  refine va_put (D := E.1) (ci := 5) (v := .int 0) (ty := .int) (C := RX5) (T := TX5) (N := 15) hx hb hts hiX5 tyX5 tyX5_ok nmX5 hown hK hP hD hS 0 rfl rfl 0 (by decide) hf26 (fun _ h9 => h9) rfl (by decide +kernel) rfl rfl (Nat.le_of_ble_eq_true rfl) dX5_unbalance_2 (fun H locs hP hD hS => ?_)
  have hP : va_P E.1 vwCl (wM E A (upd G 0 0) z a t r h) H := hP
  have hD : va_D _ (wM E A (upd G 0 0) z a t r h) := hD
  refine lv_aload_n hx hb dX5_unbalance_5 rfl (lv_at hl 0 rfl) ?_
  refine gv0i (As := []) (rest := []) ⟨hx, hb, hml, hown, hts⟩ (c_X5_unlike l E A (upd G 0 0) z a t r h hz) (cwV 0 hts gX5_unbalance_X5_unlike rfl rfl rfl (by decide +kernel) ⟨Nat.le_of_ble_eq_true rfl, Nat.le_of_ble_eq_true rfl⟩) (va_recv hK hP (ci := 5) (q0 := 0) rfl rfl) hP hK hD hN hS hA rfl hl.1 rfl (Nat.le_of_ble_eq_true rfl) dX5_unbalance_6 ⟨Nat.le_refl _, Nat.le_refl _⟩ (fun H locs hP hD hS => ?_)
  exact greti hx hb hr hlocks hP hD hS (rfl) (rfl) dX5_unbalance_9
