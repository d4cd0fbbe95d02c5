set_option maxHeartbeats 4000000 in
set_option maxRecDepth 100000 in
theorem c_X2_moveCurrents (l : Launch) (E : EE) (Bp : Nat → Nat) (g z : Nat → Int32) (lo up pk : Int32) (hg : ∀ k, k < 15 → g k = z k) (hz : zOK z) : GM l yX2_moveCurrents wsX2_moveCurrents 1 23 E (wP E Bp g z lo up pk) [.ref (Bp 0)] (wP E Bp g ((mvF z pk).1) lo up ((mvF z pk).2.1)) (some (.int (mvF z pk).2.2)) := by
  intro sz
  refine Met.ofW (cc := cX2_moveCurrents) (maxL := 7) (ret := (some .int)) (by decide) rfl ?_
  intro p e s m args below meth c s₁ B hml hv
  obtain ⟨rfl, rfl, hP, hK, hD0, hN⟩ := hv
  have hx := B.exec
  have hb := B.bytes
  have hr := B.returns
  have hts := atoms_spec (ws := wsX2_moveCurrents) B.pre
  have hown : s.vm.findClass RX2 = some m.cls := findClass_of_methodNamed B.named
  have hlocks := B.notSynchronized
  have hD := hD0.self (sz := s.heap.size)
  have hA : ∀ q : Nat, s.heap.size ≤ q → va_A (wP E Bp g z lo up pk) s.heap.size q := fun q h => Or.inr h
  have hS : va_S (va_A (wP E Bp g z lo up pk) s.heap.size) s.heap s.heap [] := va_S.rf
  have hl := lv_entry ([.ref (Bp 0)]) (n := 7) (Nat.le_of_ble_eq_true rfl)
  rw [lg_entry_eq]
  generalize (lg_sl ([.ref (Bp 0)]) ++ List.replicate (7 - (lg_sl ([.ref (Bp 0)])).length) Slot.unset).toArray = ls at hl ⊢
  have hl : lv_has ls 7 [(0, .ref (Bp 0))] := hl
  have hf149 := hts (.fieldLink RX2 149 "PhaseConverter$Phase" "current" "I") (List.mem_of_getElem? (i := 5) rfl)
  have hf18 := hts (.fieldLink RX2 18 "PhaseConverter$Plant" "settings" "[I") (List.mem_of_getElem? (i := 1) rfl)
  have hf25 := hts (.fieldLink RX2 25 "PhaseConverter$Plant" "phases" "[LPhaseConverter$Phase;") (List.mem_of_getElem? (i := 4) rfl)
  have hf30 := hts (.fieldLink RX2 30 "PhaseConverter$Plant" "phaseCount" "I") (List.mem_of_getElem? (i := 3) rfl)
  have hf49 := hts (.fieldLink RX2 49 "PhaseConverter$Plant" "voltage" "I") (List.mem_of_getElem? (i := 2) rfl)
  have hf79 := hts (.fieldLink RX2 79 "PhaseConverter$Plant" "peakCurrent" "I") (List.mem_of_getElem? (i := 6) rfl)
  have hiX1 : ∀ w ∈ u_ws RX1 TX1 7, w ∈ wsX2_moveCurrents := memIn [40, 41, 42, 43, 44, 45, 46] rfl
  have hiX2 : ∀ w ∈ u_ws RX2 TX2 17, w ∈ wsX2_moveCurrents := memIn [23, 24, 25, 26, 27, 28, 29, 30, 31, 32, 33, 34, 35, 36, 37, 38, 39] rfl
  have hn4 := hz.2.2.1
  refine lv_aload_n hx hb dX2_moveCurrents_0 rfl (lv_at hl 0 rfl) ?_
  refine va_get (D := E.1) (ci := 2) (v := .ref (Bp 1)) (C := RX2) (T := TX2) (N := 17) hx hb hts hiX2 hown hK hP 0 rfl rfl 0 (by decide) hf18 (fun _ h9 => h9) rfl dX2_moveCurrents_1 ?_
  refine lv_iconst (v := 5) hx hb dX2_moveCurrents_4 (by decide) ?_
  refine gald (x := z 5) hx hb hK hP 1 rfl 5 (rfl) (by decide) (by decide) (hg 5 (by omega)) dX2_moveCurrents_5 ?_
  refine lv_istore_n (lv' := [(1, .int (z 5)), (0, .ref (Bp 0))]) hx hb dX2_moveCurrents_6 rfl hl (by decide) rfl (fun ls hl => ?_)
  refine lv_aload_n hx hb dX2_moveCurrents_7 rfl (lv_at hl 1 rfl) ?_
  refine va_get (D := E.1) (ci := 2) (v := .ref (Bp 1)) (C := RX2) (T := TX2) (N := 17) hx hb hts hiX2 hown hK hP 0 rfl rfl 0 (by decide) hf18 (fun _ h9 => h9) rfl dX2_moveCurrents_8 ?_
  refine lv_iconst (v := 0) hx hb dX2_moveCurrents_11 (by decide) ?_
  refine gald (x := z 0) hx hb hK hP 1 rfl 0 (rfl) (by decide) (by decide) (hg 0 (by omega)) dX2_moveCurrents_12 ?_
  refine lv_aload_n hx hb dX2_moveCurrents_13 rfl (lv_at hl 1 rfl) ?_
  refine va_get (D := E.1) (ci := 2) (v := .int (z 17)) (C := RX2) (T := TX2) (N := 17) hx hb hts hiX2 hown hK hP 0 rfl rfl 5 (by decide) hf49 (fun _ h9 => h9) rfl dX2_moveCurrents_14 ?_
  refine lv_isub hx hb dX2_moveCurrents_17 ?_
  refine lv_aload_n hx hb dX2_moveCurrents_18 rfl (lv_at hl 1 rfl) ?_
  refine va_get (D := E.1) (ci := 2) (v := .ref (Bp 1)) (C := RX2) (T := TX2) (N := 17) hx hb hts hiX2 hown hK hP 0 rfl rfl 0 (by decide) hf18 (fun _ h9 => h9) rfl dX2_moveCurrents_19 ?_
  refine lv_iconst (v := 3) hx hb dX2_moveCurrents_22 (by decide) ?_
  refine gald (x := z 3) hx hb hK hP 1 rfl 3 (rfl) (by decide) (by decide) (hg 3 (by omega)) dX2_moveCurrents_23 ?_
  refine gsnPi (As := [.int ((z 0) - (z 17)), .int (z 3)]) (rest := []) ⟨hx, hb, hml, hown, hts⟩ (c_X4_quotient l E ((z 0) - (z 17)) (z 3) hz.2.2.2.2.2.2.2.1) (⟨va_cnB 2 hts ggX2_moveCurrents_X4_quotient rfl rfl rfl hN.2.1 (hts (.initialized RX4) (List.mem_of_getElem? (i := 12) rfl)) (by decide +kernel) ⟨Nat.le_of_ble_eq_true rfl, Nat.le_of_ble_eq_true rfl⟩, hts (.static yX4_quotient) (List.mem_of_getElem? (i := 11) rfl), trivial⟩) hP hK hD hN hS hA rfl hl.1 rfl (Nat.le_of_ble_eq_true rfl) dX2_moveCurrents_24 ⟨Nat.le_refl _, Nat.le_refl _⟩ (fun H locs hP hD hS => ?_)
  refine lv_istore_n (lv' := [(2, .int (((z 0) - (z 17)) / (z 3))), (1, .int (z 5)), (0, .ref (Bp 0))]) hx hb dX2_moveCurrents_27 rfl hl (by decide) rfl (fun ls hl => ?_)
  refine lv_aload_n hx hb dX2_moveCurrents_28 rfl (lv_at hl 2 rfl) ?_
  refine va_get (D := E.1) (ci := 2) (v := .int (z 17)) (C := RX2) (T := TX2) (N := 17) hx hb hts hiX2 hown hK hP 0 rfl rfl 5 (by decide) hf49 (fun _ h9 => h9) rfl dX2_moveCurrents_29 ?_
  refine lv_aload_n hx hb dX2_moveCurrents_32 rfl (lv_at hl 2 rfl) ?_
  refine va_get (D := E.1) (ci := 2) (v := .ref (Bp 1)) (C := RX2) (T := TX2) (N := 17) hx hb hts hiX2 hown hK hP 0 rfl rfl 0 (by decide) hf18 (fun _ h9 => h9) rfl dX2_moveCurrents_33 ?_
  refine lv_iconst (v := 3) hx hb dX2_moveCurrents_36 (by decide) ?_
  refine gald (x := z 3) hx hb hK hP 1 rfl 3 (rfl) (by decide) (by decide) (hg 3 (by omega)) dX2_moveCurrents_37 ?_
  refine gsnPi (As := [.int (z 17), .int (z 3)]) (rest := []) ⟨hx, hb, hml, hown, hts⟩ (c_X4_quotient l E (z 17) (z 3) hz.2.2.2.2.2.2.2.1) (⟨va_cnB 2 hts ggX2_moveCurrents_X4_quotient rfl rfl rfl hN.2.1 (hts (.initialized RX4) (List.mem_of_getElem? (i := 12) rfl)) (by decide +kernel) ⟨Nat.le_of_ble_eq_true rfl, Nat.le_of_ble_eq_true rfl⟩, hts (.static yX4_quotient) (List.mem_of_getElem? (i := 11) rfl), trivial⟩) hP hK hD hN hS hA rfl hl.1 rfl (Nat.le_of_ble_eq_true rfl) dX2_moveCurrents_38 ⟨Nat.le_refl _, Nat.le_refl _⟩ (fun H locs hP hD hS => ?_)
  refine lv_istore_n (lv' := [(3, .int ((z 17) / (z 3))), (2, .int (((z 0) - (z 17)) / (z 3))), (1, .int (z 5)), (0, .ref (Bp 0))]) hx hb dX2_moveCurrents_41 rfl hl (by decide) rfl (fun ls hl => ?_)
  refine lv_iconst (v := 0) hx hb dX2_moveCurrents_42 (by decide) ?_
  refine lv_istore (lv' := [(4, .int 0), (3, .int ((z 17) / (z 3))), (2, .int (((z 0) - (z 17)) / (z 3))), (1, .int (z 5)), (0, .ref (Bp 0))]) hx hb dX2_moveCurrents_43 hl (by decide) rfl (fun ls hl => ?_)
  refine lv_iconst (v := 0) hx hb dX2_moveCurrents_45 (by decide) ?_
  refine lv_istore (lv' := [(5, .int 0), (4, .int 0), (3, .int ((z 17) / (z 3))), (2, .int (((z 0) - (z 17)) / (z 3))), (1, .int (z 5)), (0, .ref (Bp 0))]) hx hb dX2_moveCurrents_46 hl (by decide) rfl (fun ls hl => ?_)
  have L_48 : ∀ (n i : Nat) (z1 : Nat → Int32) (pk1 : Int32) (x4 : Int32) (H : Heap) (locs : List Loc) (ls : Array Slot), (i + n = nOf z) → (∀ j, j < 35 → j ≠ 25 → z1 j = z j) → (mvL n i z1 pk1 x4 = mvL (nOf z) 0 z pk 0) → va_P E.1 vwCl (wP E Bp g z1 lo up pk1) H → va_D (va_A (wP E Bp g z lo up pk) s.heap.size) (wP E Bp g z1 lo up pk1) → va_S (va_A (wP E Bp g z lo up pk) s.heap.size) s.heap H locs → lv_has ls 7 [(5, .int (nI i)), (4, .int x4), (3, .int ((z 17) / (z 3))), (2, .int (((z 0) - (z 17)) / (z 3))), (1, .int (z 5)), (0, .ref (Bp 0))] → W p l e (gR wsX2_moveCurrents 1 23) s m ([.ref (Bp 0)] : List Value).toArray below meth c H locs 0 0 (gMQ below E s (wP E Bp g z lo up pk) (wP E Bp g ((mvF z pk).1) lo up ((mvF z pk).2.1)) (some (.int (mvF z pk).2.2)) [.ref (Bp 0)]) (F0 m 48 ls []) := by
    intro n
    induction n with
    | zero =>
      intro i z1 pk1 x4 H locs ls hin hlt hfn hP hD hS hl
      have hf : (z1, pk1, x4) = mvF z pk := hfn
      refine lv_iload hx hb dX2_moveCurrents_48 (lv_at hl 0 rfl) ?_
      refine lv_aload_n hx hb dX2_moveCurrents_50 rfl (lv_at hl 5 rfl) ?_
      refine va_get (D := E.1) (ci := 2) (v := .int (z1 15)) (C := RX2) (T := TX2) (N := 17) hx hb hts hiX2 hown hK hP 0 rfl rfl 2 (by decide) hf30 (fun _ h9 => h9) rfl dX2_moveCurrents_51 ?_
      refine lv_icmp_ge (tgt := 116) hx hb dX2_moveCurrents_54 (by decide) (fun c_54 => ?_) (fun c_54 => absurd (by rw [hlt 15 (by omega) (by omega), hz.1]; exact nI_le (by omega) (by omega)) c_54)
      refine lv_iload hx hb dX2_moveCurrents_116 (lv_at hl 1 rfl) ?_
      exact greti hx hb hr hlocks hP hD hS (congrArg (fun u => u.2.2) hf) (by rw [← hf]) dX2_moveCurrents_118
    | succ n ih =>
      intro i z1 pk1 x4 H locs ls hin hlt hfn hP hD hS hl
      refine lv_iload hx hb dX2_moveCurrents_48 (lv_at hl 0 rfl) ?_
      refine lv_aload_n hx hb dX2_moveCurrents_50 rfl (lv_at hl 5 rfl) ?_
      refine va_get (D := E.1) (ci := 2) (v := .int (z1 15)) (C := RX2) (T := TX2) (N := 17) hx hb hts hiX2 hown hK hP 0 rfl rfl 2 (by decide) hf30 (fun _ h9 => h9) rfl dX2_moveCurrents_51 ?_
      refine lv_icmp_ge (tgt := 116) hx hb dX2_moveCurrents_54 (by decide) (fun c_54 => absurd c_54 (by rw [hlt 15 (by omega) (by omega), hz.1]; exact nI_ge (by omega) (by omega))) (fun c_54 => ?_)
      refine lv_iload hx hb dX2_moveCurrents_57 (lv_at hl 0 rfl) ?_
      refine lv_aload_n hx hb dX2_moveCurrents_59 rfl (lv_at hl 5 rfl) ?_
      refine va_get (D := E.1) (ci := 2) (v := .ref (Bp 2)) (C := RX2) (T := TX2) (N := 17) hx hb hts hiX2 hown hK hP 0 rfl rfl 1 (by decide) hf25 (fun _ h9 => h9) rfl dX2_moveCurrents_60 ?_
      refine va_alen hx hb hK hP 2 1 rfl rfl (v := 4) rfl dX2_moveCurrents_63 ?_
      refine lv_icmp_ge (tgt := 116) hx hb dX2_moveCurrents_64 (by decide) (fun c_64 => absurd c_64 (nI_ge (b := 4) (by omega) (by omega))) (fun c_64 => ?_)
      refine lv_aload_n hx hb dX2_moveCurrents_67 rfl (lv_at hl 5 rfl) ?_
      refine va_get (D := E.1) (ci := 2) (v := .ref (Bp 2)) (C := RX2) (T := TX2) (N := 17) hx hb hts hiX2 hown hK hP 0 rfl rfl 1 (by decide) hf25 (fun _ h9 => h9) rfl dX2_moveCurrents_68 ?_
      refine lv_iload hx hb dX2_moveCurrents_71 (lv_at hl 0 rfl) ?_
      refine galdq (b := Bp (3 + i)) hx hb hK hP 2 rfl i (rfl) (by omega) (by decide) rfl dX2_moveCurrents_73 ?_
      refine lv_astore (lv' := [(6, .ref (Bp (3 + i))), (5, .int (nI i)), (4, .int x4), (3, .int ((z 17) / (z 3))), (2, .int (((z 0) - (z 17)) / (z 3))), (1, .int (z 5)), (0, .ref (Bp 0))]) hx hb dX2_moveCurrents_74 hl (by decide) rfl (fun ls hl => ?_)
      refine lv_aload hx hb dX2_moveCurrents_76 (lv_at hl 0 rfl) ?_
      refine lv_iload_n hx hb dX2_moveCurrents_78 rfl (lv_at hl 5 rfl) ?_
      refine lv_iload_n hx hb dX2_moveCurrents_79 rfl (lv_at hl 4 rfl) ?_
      refine lv_iload_n hx hb dX2_moveCurrents_80 rfl (lv_at hl 3 rfl) ?_
      refine gvKv (3 + i) (As := [.int (z 5), .int (((z 0) - (z 17)) / (z 3)), .int ((z 17) / (z 3))]) (rest := []) ⟨hx, hb, hml, hown, hts⟩ (c_X1_passSlot l E (Bp (3 + i)) (fun j => z1 (35 + 7 * i + j)) (z 5) (((z 0) - (z 17)) / (z 3)) ((z 17) / (z 3))) (cwV 3 hts gX2_moveCurrents_X1_passSlot rfl rfl rfl (by decide +kernel) ⟨Nat.le_of_ble_eq_true rfl, Nat.le_of_ble_eq_true rfl⟩) (va_recv hK hP (ci := 1) (q0 := (3 + i)) rfl (wP_at (by omega))) hP hK hD hN hS hA (wP_at (by omega)) rfl hl.1 rfl (Nat.le_of_ble_eq_true rfl) dX2_moveCurrents_81 ⟨Nat.le_refl _, Nat.le_refl _⟩ (fun H locs hP hD hS => ?_)
      have hP : va_P E.1 vwCl (wP E Bp g (step i z1) lo up pk1) H := Eq.mp (congrArg (fun w => va_P E.1 vwCl w H) (wP_step (E := E) (B := Bp) (g := g) (z := z1) (l := lo) (u := up) (q := pk1) (k := i) (by omega) (hlt 5 (by omega) (by omega)) (by rw [hlt 0 (by omega) (by omega), hlt 17 (by omega) (by omega), hlt 3 (by omega) (by omega)]) (by rw [hlt 17 (by omega) (by omega), hlt 3 (by omega) (by omega)]))) hP
      have hD : va_D (va_A (wP E Bp g z lo up pk) s.heap.size) (wP E Bp g (step i z1) lo up pk1) := Eq.mp (congrArg (fun w => va_D (va_A (wP E Bp g z lo up pk) s.heap.size) w) (wP_step (E := E) (B := Bp) (g := g) (z := z1) (l := lo) (u := up) (q := pk1) (k := i) (by omega) (hlt 5 (by omega) (by omega)) (by rw [hlt 0 (by omega) (by omega), hlt 17 (by omega) (by omega), hlt 3 (by omega) (by omega)]) (by rw [hlt 17 (by omega) (by omega), hlt 3 (by omega) (by omega)]))) hD
      refine lv_iload hx hb dX2_moveCurrents_84 (lv_at hl 2 rfl) ?_
      refine lv_aload hx hb dX2_moveCurrents_86 (lv_at hl 0 rfl) ?_
      refine va_get (D := E.1) (ci := 1) (v := .int ((step i z1) (35 + 7 * i + 0))) (C := RX1) (T := TX1) (N := 7) hx hb hts hiX1 hown hK hP (3 + i) (wP_at (by omega)) rfl 0 (by decide) hf149 (fun _ h9 => h9) rfl dX2_moveCurrents_88 ?_
      refine lv_iadd hx hb dX2_moveCurrents_91 ?_
      refine lv_istore (lv' := [(4, .int (x4 + ((step i z1) (35 + 7 * i + 0)))), (6, .ref (Bp (3 + i))), (5, .int (nI i)), (3, .int ((z 17) / (z 3))), (2, .int (((z 0) - (z 17)) / (z 3))), (1, .int (z 5)), (0, .ref (Bp 0))]) hx hb dX2_moveCurrents_92 hl (by decide) rfl (fun ls hl => ?_)
      refine lv_aload_n hx hb dX2_moveCurrents_94 rfl (lv_at hl 6 rfl) ?_
      refine lv_aload_n hx hb dX2_moveCurrents_95 rfl (lv_at hl 6 rfl) ?_
      refine va_get (D := E.1) (ci := 2) (v := .int pk1) (C := RX2) (T := TX2) (N := 17) hx hb hts hiX2 hown hK hP 0 rfl rfl 15 (by decide) hf79 (fun _ h9 => h9) rfl dX2_moveCurrents_96 ?_
      refine lv_aload hx hb dX2_moveCurrents_99 (lv_at hl 1 rfl) ?_
      refine va_get (D := E.1) (ci := 1) (v := .int ((step i z1) (35 + 7 * i + 0))) (C := RX1) (T := TX1) (N := 7) hx hb hts hiX1 hown hK hP (3 + i) (wP_at (by omega)) rfl 0 (by decide) hf149 (fun _ h9 => h9) rfl dX2_moveCurrents_101 ?_
      refine va_mmax hx hb (by rw [hml]; exact hl.1.symm) hown (hts (.methodLink RX2 128 Lib.Math.max.name) (List.mem_of_getElem? (i := 7) rfl)) (hts (.static Lib.Math.max.name) (List.mem_of_getElem? (i := 8) rfl)) (hts (.initialized "java/lang/Math") (List.mem_of_getElem? (i := 9) rfl)) (hts (.code Lib.Math.max.name Lib.Math.max.code 2 (some .int)) (List.mem_of_getElem? (i := 10) rfl)) (Nat.le_of_ble_eq_true rfl) (Nat.le_of_ble_eq_true rfl) (Nat.le_of_ble_eq_true rfl) (Nat.le_of_ble_eq_true rfl) dX2_moveCurrents_104 ?_
      refine va_put (D := E.1) (ci := 2) (v := .int (if pk1 < ((step i z1) (35 + 7 * i + 0)) then ((step i z1) (35 + 7 * i + 0)) else pk1)) (ty := .int) (C := RX2) (T := TX2) (N := 17) hx hb hts hiX2 tyX2 tyX2_ok nmX2 hown hK hP hD hS 0 rfl rfl 15 (by decide) hf79 (fun _ h9 => h9) rfl (by decide +kernel) rfl rfl (Nat.le_of_ble_eq_true rfl) dX2_moveCurrents_107 (fun H locs hP hD hS => ?_)
      have hP : va_P E.1 vwCl (wP E Bp g (step i z1) lo up (if pk1 < ((step i z1) (35 + 7 * i + 0)) then ((step i z1) (35 + 7 * i + 0)) else pk1)) H := hP
      have hD : va_D _ (wP E Bp g (step i z1) lo up (if pk1 < ((step i z1) (35 + 7 * i + 0)) then ((step i z1) (35 + 7 * i + 0)) else pk1)) := hD
      refine lv_iinc (v := nI (i + 1)) (lv' := [(5, .int (nI (i + 1))), (4, .int (x4 + ((step i z1) (35 + 7 * i + 0)))), (6, .ref (Bp (3 + i))), (3, .int ((z 17) / (z 3))), (2, .int (((z 0) - (z 17)) / (z 3))), (1, .int (z 5)), (0, .ref (Bp 0))]) hx hb dX2_moveCurrents_110 hl (k := 2) rfl (nI_1 _) (by decide) rfl (fun ls hl => ?_)
      refine lv_goto (tgt := 48) hx hb dX2_moveCurrents_113 (by decide) ?_
      exact ih (i + 1) (step i z1) (if pk1 < ((step i z1) (35 + 7 * i + 0)) then ((step i z1) (35 + 7 * i + 0)) else pk1) (x4 + ((step i z1) (35 + 7 * i + 0))) H locs ls (by omega) (fun j a b => (step_lt a b).trans (hlt j a b)) (hfn) hP hD hS (lv_sub hl [0, 1, 3, 4, 5, 6] rfl)
  exact L_48 (nOf z) (0) z pk 0 H locs ls (by omega) (fun _ _ _ => rfl) rfl hP hD hS (lv_sub hl [0, 1, 2, 3, 4, 5] rfl)

set_option maxHeartbeats 4000000 in
set_option maxRecDepth 100000 in
theorem c_X2_moveVoltage (l : Launch) (E : EE) (Bp : Nat → Nat) (g z : Nat → Int32) (lo up pk : Int32) (v0 : Int32) (hg : ∀ k, k < 15 → g k = z k) (hz : zOK z) (hZ : zZ z) : GM l yX2_moveVoltage wsX2_moveVoltage 1 22 E (wP E Bp g z lo up pk) [.ref (Bp 0), .int v0] (wP E Bp g (slotD (mvV v0 z)) lo up pk) (none) := by
  intro sz
  refine Met.ofW (cc := cX2_moveVoltage) (maxL := 3) (ret := none) (by decide) rfl ?_
  intro p e s m args below meth c s₁ B hml hv
  obtain ⟨rfl, rfl, hP, hK, hD0, hN⟩ := hv
  have hx := B.exec
  have hb := B.bytes
  have hr := B.returns
  have hts := atoms_spec (ws := wsX2_moveVoltage) B.pre
  have hown : s.vm.findClass RX2 = some m.cls := findClass_of_methodNamed B.named
  have hlocks := B.notSynchronized
  have hD := hD0.self (sz := s.heap.size)
  have hA : ∀ q : Nat, s.heap.size ≤ q → va_A (wP E Bp g z lo up pk) s.heap.size q := fun q h => Or.inr h
  have hS : va_S (va_A (wP E Bp g z lo up pk) s.heap.size) s.heap s.heap [] := va_S.rf
  have hl := lv_entry ([.ref (Bp 0), .int v0]) (n := 3) (Nat.le_of_ble_eq_true rfl)
  rw [lg_entry_eq]
  generalize (lg_sl ([.ref (Bp 0), .int v0]) ++ List.replicate (3 - (lg_sl ([.ref (Bp 0), .int v0])).length) Slot.unset).toArray = ls at hl ⊢
  have hl : lv_has ls 3 [(0, .ref (Bp 0)), (1, .int v0)] := hl
  have hf18 := hts (.fieldLink RX2 18 "PhaseConverter$Plant" "settings" "[I") (List.mem_of_getElem? (i := 1) rfl)
  have hf49 := hts (.fieldLink RX2 49 "PhaseConverter$Plant" "voltage" "I") (List.mem_of_getElem? (i := 2) rfl)
  have hiX2 : ∀ w ∈ u_ws RX2 TX2 17, w ∈ wsX2_moveVoltage := memIn [21, 22, 23, 24, 25, 26, 27, 28, 29, 30, 31, 32, 33, 34, 35, 36, 37] rfl
  refine lv_iload_n hx hb dX2_moveVoltage_0 rfl (lv_at hl 1 rfl) ?_
  refine lv_aload_n hx hb dX2_moveVoltage_1 rfl (lv_at hl 0 rfl) ?_
  refine va_get (D := E.1) (ci := 2) (v := .ref (Bp 1)) (C := RX2) (T := TX2) (N := 17) hx hb hts hiX2 hown hK hP 0 rfl rfl 0 (by decide) hf18 (fun _ h9 => h9) rfl dX2_moveVoltage_2 ?_
  refine lv_iconst (v := 2) hx hb dX2_moveVoltage_5 (by decide) ?_
  refine gald (x := z 2) hx hb hK hP 1 rfl 2 (rfl) (by decide) (by decide) (hg 2 (by omega)) dX2_moveVoltage_6 ?_
  refine lv_isub hx hb dX2_moveVoltage_7 ?_
  refine lv_aload_n hx hb dX2_moveVoltage_8 rfl (lv_at hl 0 rfl) ?_
  refine va_get (D := E.1) (ci := 2) (v := .ref (Bp 1)) (C := RX2) (T := TX2) (N := 17) hx hb hts hiX2 hown hK hP 0 rfl rfl 0 (by decide) hf18 (fun _ h9 => h9) rfl dX2_moveVoltage_9 ?_
  refine lv_iconst (v := 4) hx hb dX2_moveVoltage_12 (by decide) ?_
  refine gald (x := z 4) hx hb hK hP 1 rfl 4 (rfl) (by decide) (by decide) (hg 4 (by omega)) dX2_moveVoltage_13 ?_
  refine gsnPi (As := [.int (v0 - (z 2)), .int (z 4)]) (rest := []) ⟨hx, hb, hml, hown, hts⟩ (c_X4_quotient l E (v0 - (z 2)) (z 4) hz.2.2.2.2.2.2.2.2) (⟨va_cnB 2 hts ggX2_moveVoltage_X4_quotient rfl rfl rfl hN.2.1 (hts (.initialized RX4) (List.mem_of_getElem? (i := 5) rfl)) (by decide +kernel) ⟨Nat.le_of_ble_eq_true rfl, Nat.le_of_ble_eq_true rfl⟩, hts (.static yX4_quotient) (List.mem_of_getElem? (i := 4) rfl), trivial⟩) hP hK hD hN hS hA rfl hl.1 rfl (Nat.le_of_ble_eq_true rfl) dX2_moveVoltage_14 ⟨Nat.le_refl _, Nat.le_refl _⟩ (fun H locs hP hD hS => ?_)
  refine lv_istore_n (lv' := [(2, .int ((v0 - (z 2)) / (z 4))), (0, .ref (Bp 0)), (1, .int v0)]) hx hb dX2_moveVoltage_17 rfl hl (by decide) rfl (fun ls hl => ?_)
  refine lv_aload_n hx hb dX2_moveVoltage_18 rfl (lv_at hl 1 rfl) ?_
  refine lv_aload_n hx hb dX2_moveVoltage_19 rfl (lv_at hl 1 rfl) ?_
  refine va_get (D := E.1) (ci := 2) (v := .int (z 17)) (C := RX2) (T := TX2) (N := 17) hx hb hts hiX2 hown hK hP 0 rfl rfl 5 (by decide) hf49 (fun _ h9 => h9) rfl dX2_moveVoltage_20 ?_
  refine lv_iload_n hx hb dX2_moveVoltage_23 rfl (lv_at hl 0 rfl) ?_
  refine lv_iadd hx hb dX2_moveVoltage_24 ?_
  refine lv_iconst (v := 0) hx hb dX2_moveVoltage_25 (by decide) ?_
  refine lv_ldc (own := RX2) (v := 40000) hx hb hown (hts (.constant RX2 161 (40000)) (List.mem_of_getElem? (i := 3) rfl)) dX2_moveVoltage_26 ?_
  refine gsnPi (As := [.int ((z 17) + ((v0 - (z 2)) / (z 4))), .int 0, .int 40000]) (rest := [.ref (Bp 0)]) ⟨hx, hb, hml, hown, hts⟩ (c_X4_clamp l E ((z 17) + ((v0 - (z 2)) / (z 4))) 0 40000) (⟨va_cnB 3 hts ggX2_moveVoltage_X4_clamp rfl rfl rfl hN.1 (hts (.initialized RX4) (List.mem_of_getElem? (i := 5) rfl)) (by decide +kernel) ⟨Nat.le_of_ble_eq_true rfl, Nat.le_of_ble_eq_true rfl⟩, hts (.static yX4_clamp) (List.mem_of_getElem? (i := 7) rfl), trivial⟩) hP hK hD hN hS hA rfl hl.1 rfl (Nat.le_of_ble_eq_true rfl) dX2_moveVoltage_28 ⟨Nat.le_refl _, Nat.le_refl _⟩ (fun H locs hP hD hS => ?_)
  refine lv_topi (fun xv exv => ?_)
  refine va_put (D := E.1) (ci := 2) (v := .int xv) (ty := .int) (C := RX2) (T := TX2) (N := 17) hx hb hts hiX2 tyX2 tyX2_ok nmX2 hown hK hP hD hS 0 rfl rfl 5 (by decide) hf49 (fun _ h9 => h9) rfl (by decide +kernel) rfl rfl (Nat.le_of_ble_eq_true rfl) dX2_moveVoltage_31 (fun H locs hP hD hS => ?_)
  have hP : va_P E.1 vwCl (wP E Bp g (upd z 17 xv) lo up pk) H := hP
  have hD : va_D _ (wP E Bp g (upd z 17 xv) lo up pk) := hD
  refine lv_aload_n hx hb dX2_moveVoltage_34 rfl (lv_at hl 1 rfl) ?_
  refine gv0i (As := []) (rest := []) ⟨hx, hb, hml, hown, hts⟩ (c_X2_runs l E Bp g (upd z 17 xv) lo up pk) (cwV 0 hts gX2_moveVoltage_X2_runs rfl rfl rfl (by decide +kernel) ⟨Nat.le_of_ble_eq_true rfl, Nat.le_of_ble_eq_true rfl⟩) (va_recv hK hP (ci := 2) (q0 := 0) rfl rfl) hP hK hD hN hS hA rfl hl.1 rfl (Nat.le_of_ble_eq_true rfl) dX2_moveVoltage_35 ⟨Nat.le_refl _, Nat.le_refl _⟩ (fun H locs hP hD hS => ?_)
  refine lv_if_eq (tgt := 60) hx hb dX2_moveVoltage_38 (by decide) (fun c_38 => ?_) (fun c_38 => ?_)
  · exact gretv hx hb hr hlocks hP hD hS (by unfold mvV; rw [← exv]; unfold slotD; rw [if_pos c_38]) dX2_moveVoltage_60
  · refine lv_aload_n hx hb dX2_moveVoltage_41 rfl (lv_at hl 1 rfl) ?_
    refine va_get (D := E.1) (ci := 2) (v := .int xv) (C := RX2) (T := TX2) (N := 17) hx hb hts hiX2 hown hK hP 0 rfl rfl 5 (by decide) hf49 (fun _ h9 => h9) rfl dX2_moveVoltage_42 ?_
    refine lv_aload_n hx hb dX2_moveVoltage_45 rfl (lv_at hl 1 rfl) ?_
    refine va_get (D := E.1) (ci := 2) (v := .ref (Bp 1)) (C := RX2) (T := TX2) (N := 17) hx hb hts hiX2 hown hK hP 0 rfl rfl 0 (by decide) hf18 (fun _ h9 => h9) rfl dX2_moveVoltage_46 ?_
    refine lv_bipush (v := 12) hx hb dX2_moveVoltage_49 (by decide) ?_
    refine gald (x := z 12) hx hb hK hP 1 rfl 12 (rfl) (by decide) (by decide) (hg 12 (by omega)) dX2_moveVoltage_51 ?_
    refine lv_icmp_le (tgt := 60) hx hb dX2_moveVoltage_52 (by decide) (fun c_52 => ?_) (fun c_52 => ?_)
    · exact gretv hx hb hr hlocks hP hD hS (by unfold mvV; rw [← exv]; unfold slotD; rw [if_neg c_38, if_pos (show upd z 17 xv 17 ≤ upd z 17 xv 12 from c_52)]) dX2_moveVoltage_60
    · refine lv_aload_n hx hb dX2_moveVoltage_55 rfl (lv_at hl 1 rfl) ?_
      refine lv_iconst (v := 3) hx hb dX2_moveVoltage_56 (by decide) ?_
      refine gv0v (As := [.int 3]) (rest := []) ⟨hx, hb, hml, hown, hts⟩ (c_X2_halt l E Bp g (upd z 17 xv) lo up pk 3 (upd_OK hz (by omega) (by omega) (by omega) (by omega) (by omega)) (zZ_of hZ (upd_n (by omega)) (fun i h1 h2 => pk_un (by omega)))) (cwV 1 hts gX2_moveVoltage_X2_halt rfl rfl rfl (by decide +kernel) ⟨Nat.le_of_ble_eq_true rfl, Nat.le_of_ble_eq_true rfl⟩) (va_recv hK hP (ci := 2) (q0 := 0) rfl rfl) hP hK hD hN hS hA rfl hl.1 rfl (Nat.le_of_ble_eq_true rfl) dX2_moveVoltage_57 ⟨Nat.le_refl _, Nat.le_refl _⟩ (fun H locs hP hD hS => ?_)
      have hP : va_P E.1 vwCl (wP E Bp g (stopTo 3 (upd z 17 xv)) lo up pk) H := hP
      have hD : va_D _ (wP E Bp g (stopTo 3 (upd z 17 xv)) lo up pk) := hD
      exact gretv hx hb hr hlocks hP hD hS (by unfold mvV; rw [← exv]; unfold slotD; rw [if_neg c_38, if_neg (show ¬ upd z 17 xv 17 ≤ upd z 17 xv 12 from c_52)]) dX2_moveVoltage_60

set_option maxHeartbeats 4000000 in
set_option maxRecDepth 100000 in
theorem c_X2_beginPulse (l : Launch) (E : EE) (Bp : Nat → Nat) (g z : Nat → Int32) (lo up pk : Int32) (k0 : Nat) (hg : ∀ k, k < 15 → g k = z k) (hz : zOK z) (hk : k0 < 4) : GM l yX2_beginPulse wsX2_beginPulse 1 22 E (wP E Bp g z lo up pk) [.ref (Bp 0), .ref (Bp (3 + k0))] (wP E Bp g (beginP k0 (z 22) z) lo up pk) (none) := by
  intro sz
  refine Met.ofW (cc := cX2_beginPulse) (maxL := 5) (ret := none) (by decide) rfl ?_
  intro p e s m args below meth c s₁ B hml hv
  obtain ⟨rfl, rfl, hP, hK, hD0, hN⟩ := hv
  have hx := B.exec
  have hb := B.bytes
  have hr := B.returns
  have hts := atoms_spec (ws := wsX2_beginPulse) B.pre
  have hown : s.vm.findClass RX2 = some m.cls := findClass_of_methodNamed B.named
  have hlocks := B.notSynchronized
  have hD := hD0.self (sz := s.heap.size)
  have hA : ∀ q : Nat, s.heap.size ≤ q → va_A (wP E Bp g z lo up pk) s.heap.size q := fun q h => Or.inr h
  have hS : va_S (va_A (wP E Bp g z lo up pk) s.heap.size) s.heap s.heap [] := va_S.rf
  have hl := lv_entry ([.ref (Bp 0), .ref (Bp (3 + k0))]) (n := 5) (Nat.le_of_ble_eq_true rfl)
  rw [lg_entry_eq]
  generalize (lg_sl ([.ref (Bp 0), .ref (Bp (3 + k0))]) ++ List.replicate (5 - (lg_sl ([.ref (Bp 0), .ref (Bp (3 + k0))])).length) Slot.unset).toArray = ls at hl ⊢
  have hl : lv_has ls 5 [(0, .ref (Bp 0)), (1, .ref (Bp (3 + k0)))] := hl
  have hf149 := hts (.fieldLink RX2 149 "PhaseConverter$Phase" "current" "I") (List.mem_of_getElem? (i := 6) rfl)
  have hf18 := hts (.fieldLink RX2 18 "PhaseConverter$Plant" "settings" "[I") (List.mem_of_getElem? (i := 3) rfl)
  have hf34 := hts (.fieldLink RX2 34 "PhaseConverter$Plant" "active" "I") (List.mem_of_getElem? (i := 7) rfl)
  have hf46 := hts (.fieldLink RX2 46 "PhaseConverter$Plant" "mode" "I") (List.mem_of_getElem? (i := 1) rfl)
  have hf49 := hts (.fieldLink RX2 49 "PhaseConverter$Plant" "voltage" "I") (List.mem_of_getElem? (i := 4) rfl)
  have hf52 := hts (.fieldLink RX2 52 "PhaseConverter$Plant" "presentTarget" "I") (List.mem_of_getElem? (i := 5) rfl)
  have hf58 := hts (.fieldLink RX2 58 "PhaseConverter$Plant" "duty" "I") (List.mem_of_getElem? (i := 8) rfl)
  have hf70 := hts (.fieldLink RX2 70 "PhaseConverter$Plant" "meanCurrent" "I") (List.mem_of_getElem? (i := 2) rfl)
  have hiX1 : ∀ w ∈ u_ws RX1 TX1 7, w ∈ wsX2_beginPulse := memIn [50, 51, 52, 53, 54, 55, 56] rfl
  have hiX2 : ∀ w ∈ u_ws RX2 TX2 17, w ∈ wsX2_beginPulse := memIn [33, 34, 35, 36, 37, 38, 39, 40, 41, 42, 43, 44, 45, 46, 47, 48, 49] rfl
  refine lv_aload_n hx hb dX2_beginPulse_0 rfl (lv_at hl 0 rfl) ?_
  refine va_get (D := E.1) (ci := 2) (v := .int (z 20)) (C := RX2) (T := TX2) (N := 17) hx hb hts hiX2 hown hK hP 0 rfl rfl 4 (by decide) hf46 (fun _ h9 => h9) rfl dX2_beginPulse_1 ?_
  refine lv_iconst (v := 1) hx hb dX2_beginPulse_4 (by decide) ?_
  refine lv_icmp_eq (tgt := 22) hx hb dX2_beginPulse_5 (by decide) (fun c_5 => ?_) (fun c_5 => ?_)
  · refine lv_iconst (v := 1) hx hb dX2_beginPulse_22 (by decide) ?_
    refine lv_goto (tgt := 27) hx hb dX2_beginPulse_23 (by decide) ?_
    refine lv_istore_n (lv' := [(2, .int 1), (0, .ref (Bp 0)), (1, .ref (Bp (3 + k0)))]) hx hb dX2_beginPulse_27 rfl hl (by decide) rfl (fun ls hl => ?_)
    refine lv_aload_n hx hb dX2_beginPulse_28 rfl (lv_at hl 1 rfl) ?_
    refine va_get (D := E.1) (ci := 2) (v := .int (z 17)) (C := RX2) (T := TX2) (N := 17) hx hb hts hiX2 hown hK hP 0 rfl rfl 5 (by decide) hf49 (fun _ h9 => h9) rfl dX2_beginPulse_29 ?_
    refine lv_aload_n hx hb dX2_beginPulse_32 rfl (lv_at hl 1 rfl) ?_
    refine va_get (D := E.1) (ci := 2) (v := .int (z 18)) (C := RX2) (T := TX2) (N := 17) hx hb hts hiX2 hown hK hP 0 rfl rfl 6 (by decide) hf52 (fun _ h9 => h9) rfl dX2_beginPulse_33 ?_
    refine lv_icmp_lt (tgt := 48) hx hb dX2_beginPulse_36 (by decide) (fun c_36 => ?_) (fun c_36 => ?_)
    · refine lv_aload_n hx hb dX2_beginPulse_48 rfl (lv_at hl 2 rfl) ?_
      refine va_get (D := E.1) (ci := 1) (v := .int (z (35 + 7 * k0 + 0))) (C := RX1) (T := TX1) (N := 7) hx hb hts hiX1 hown hK hP (3 + k0) (wP_at (by omega)) rfl 0 (by decide) hf149 (fun _ h9 => h9) rfl dX2_beginPulse_49 ?_
      refine lv_aload_n hx hb dX2_beginPulse_52 rfl (lv_at hl 1 rfl) ?_
      refine gv0i (As := []) (rest := [.int (z (35 + 7 * k0 + 0))]) ⟨hx, hb, hml, hown, hts⟩ (c_X2_activeCurrents l E Bp g z lo up pk hz) (cwV 0 hts gX2_beginPulse_X2_activeCurrents rfl rfl rfl (by decide +kernel) ⟨Nat.le_of_ble_eq_true rfl, Nat.le_of_ble_eq_true rfl⟩) (va_recv hK hP (ci := 2) (q0 := 0) rfl rfl) hP hK hD hN hS hA rfl hl.1 rfl (Nat.le_of_ble_eq_true rfl) dX2_beginPulse_53 ⟨Nat.le_refl _, Nat.le_refl _⟩ (fun H locs hP hD hS => ?_)
      refine lv_aload_n hx hb dX2_beginPulse_56 rfl (lv_at hl 1 rfl) ?_
      refine va_get (D := E.1) (ci := 2) (v := .int (z 16)) (C := RX2) (T := TX2) (N := 17) hx hb hts hiX2 hown hK hP 0 rfl rfl 3 (by decide) hf34 (fun _ h9 => h9) rfl dX2_beginPulse_57 ?_
      refine gsnPi (As := [.int (sumC (mOf z) z), .int (z 16)]) (rest := [.int (z (35 + 7 * k0 + 0))]) ⟨hx, hb, hml, hown, hts⟩ (c_X4_quotient l E (sumC (mOf z) z) (z 16) (zOK_m0 hz)) (⟨va_cnB 2 hts ggX2_beginPulse_X4_quotient rfl rfl rfl hN.2.1 (hts (.initialized RX4) (List.mem_of_getElem? (i := 23) rfl)) (by decide +kernel) ⟨Nat.le_of_ble_eq_true rfl, Nat.le_of_ble_eq_true rfl⟩, hts (.static yX4_quotient) (List.mem_of_getElem? (i := 22) rfl), trivial⟩) hP hK hD hN hS hA rfl hl.1 rfl (Nat.le_of_ble_eq_true rfl) dX2_beginPulse_60 ⟨Nat.le_refl _, Nat.le_refl _⟩ (fun H locs hP hD hS => ?_)
      refine lv_isub hx hb dX2_beginPulse_63 ?_
      refine lv_istore_n (lv' := [(3, .int ((z (35 + 7 * k0 + 0)) - ((sumC (mOf z) z) / (z 16)))), (2, .int 1), (0, .ref (Bp 0)), (1, .ref (Bp (3 + k0)))]) hx hb dX2_beginPulse_64 rfl hl (by decide) rfl (fun ls hl => ?_)
      refine lv_aload_n hx hb dX2_beginPulse_65 rfl (lv_at hl 2 rfl) ?_
      refine va_get (D := E.1) (ci := 2) (v := .int (z 21)) (C := RX2) (T := TX2) (N := 17) hx hb hts hiX2 hown hK hP 0 rfl rfl 8 (by decide) hf58 (fun _ h9 => h9) rfl dX2_beginPulse_66 ?_
      refine lv_iload_n hx hb dX2_beginPulse_69 rfl (lv_at hl 0 rfl) ?_
      refine lv_aload_n hx hb dX2_beginPulse_70 rfl (lv_at hl 2 rfl) ?_
      refine va_get (D := E.1) (ci := 2) (v := .ref (Bp 1)) (C := RX2) (T := TX2) (N := 17) hx hb hts hiX2 hown hK hP 0 rfl rfl 0 (by decide) hf18 (fun _ h9 => h9) rfl dX2_beginPulse_71 ?_
      refine lv_bipush (v := 14) hx hb dX2_beginPulse_74 (by decide) ?_
      refine gald (x := z 14) hx hb hK hP 1 rfl 14 (rfl) (by decide) (by decide) (hg 14 (by omega)) dX2_beginPulse_76 ?_
      refine lv_imul hx hb dX2_beginPulse_77 ?_
      refine lv_sipush (v := 1000) hx hb dX2_beginPulse_78 (by decide) ?_
      refine lv_idiv hx hb dX2_beginPulse_81 (by decide) ?_
      refine lv_isub hx hb dX2_beginPulse_82 ?_
      refine lv_istore (lv' := [(4, .int ((z 21) - ((((z (35 + 7 * k0 + 0)) - ((sumC (mOf z) z) / (z 16))) * (z 14)) / 1000))), (3, .int ((z (35 + 7 * k0 + 0)) - ((sumC (mOf z) z) / (z 16)))), (2, .int 1), (0, .ref (Bp 0)), (1, .ref (Bp (3 + k0)))]) hx hb dX2_beginPulse_83 hl (by decide) rfl (fun ls hl => ?_)
      refine lv_aload_n hx hb dX2_beginPulse_85 rfl (lv_at hl 4 rfl) ?_
      refine lv_iload hx hb dX2_beginPulse_86 (lv_at hl 0 rfl) ?_
      refine lv_iconst (v := 0) hx hb dX2_beginPulse_88 (by decide) ?_
      refine lv_sipush (v := 900) hx hb dX2_beginPulse_89 (by decide) ?_
      refine gsnPi (As := [.int ((z 21) - ((((z (35 + 7 * k0 + 0)) - ((sumC (mOf z) z) / (z 16))) * (z 14)) / 1000)), .int 0, .int 900]) (rest := [.ref (Bp (3 + k0))]) ⟨hx, hb, hml, hown, hts⟩ (c_X4_clamp l E ((z 21) - ((((z (35 + 7 * k0 + 0)) - ((sumC (mOf z) z) / (z 16))) * (z 14)) / 1000)) 0 900) (⟨va_cnB 3 hts ggX2_beginPulse_X4_clamp rfl rfl rfl hN.1 (hts (.initialized RX4) (List.mem_of_getElem? (i := 23) rfl)) (by decide +kernel) ⟨Nat.le_of_ble_eq_true rfl, Nat.le_of_ble_eq_true rfl⟩, hts (.static yX4_clamp) (List.mem_of_getElem? (i := 25) rfl), trivial⟩) hP hK hD hN hS hA rfl hl.1 rfl (Nat.le_of_ble_eq_true rfl) dX2_beginPulse_92 ⟨Nat.le_refl _, Nat.le_refl _⟩ (fun H locs hP hD hS => ?_)
      refine gvKv (3 + k0) (As := [.int (clampI ((z 21) - ((((z (35 + 7 * k0 + 0)) - ((sumC (mOf z) z) / (z 16))) * (z 14)) / 1000)) 0 900)]) (rest := []) ⟨hx, hb, hml, hown, hts⟩ (c_X1_beginPulse l E (Bp (3 + k0)) (fun j => z (35 + 7 * k0 + j)) (clampI ((z 21) - ((((z (35 + 7 * k0 + 0)) - ((sumC (mOf z) z) / (z 16))) * (z 14)) / 1000)) 0 900)) (cwV 1 hts gX2_beginPulse_X1_beginPulse rfl rfl rfl (by decide +kernel) ⟨Nat.le_of_ble_eq_true rfl, Nat.le_of_ble_eq_true rfl⟩) (va_recv hK hP (ci := 1) (q0 := (3 + k0)) rfl (wP_at (by omega))) hP hK hD hN hS hA (wP_at (by omega)) rfl hl.1 rfl (Nat.le_of_ble_eq_true rfl) dX2_beginPulse_95 ⟨Nat.le_refl _, Nat.le_refl _⟩ (fun H locs hP hD hS => ?_)
      have hP : va_P E.1 vwCl (wP E Bp g (bpGo k0 z) lo up pk) H := Eq.mp (congrArg (fun w => va_P E.1 vwCl w H) (wP_go (E := E) (B := Bp) (g := g) (z := z) (l := lo) (u := up) (q := pk) (k := k0) (by omega) rfl)) hP
      have hD : va_D (va_A (wP E Bp g z lo up pk) s.heap.size) (wP E Bp g (bpGo k0 z) lo up pk) := Eq.mp (congrArg (fun w => va_D (va_A (wP E Bp g z lo up pk) s.heap.size) w) (wP_go (E := E) (B := Bp) (g := g) (z := z) (l := lo) (u := up) (q := pk) (k := k0) (by omega) rfl)) hD
      exact gretv hx hb hr hlocks hP hD hS (by simp only [beginP, if_pos c_5, if_pos c_36]) dX2_beginPulse_98
    · refine lv_iload_n hx hb dX2_beginPulse_39 rfl (lv_at hl 0 rfl) ?_
      refine lv_if_eq (tgt := 48) hx hb dX2_beginPulse_40 (by decide) (fun c_40 => absurd c_40 (by decide)) (fun c_40 => ?_)
      refine lv_aload_n hx hb dX2_beginPulse_43 rfl (lv_at hl 2 rfl) ?_
      refine gvKv (3 + k0) (As := []) (rest := []) ⟨hx, hb, hml, hown, hts⟩ (c_X1_skipPulse l E (Bp (3 + k0)) (fun j => z (35 + 7 * k0 + j))) (cwV 0 hts gX2_beginPulse_X1_skipPulse rfl rfl rfl (by decide +kernel) ⟨Nat.le_of_ble_eq_true rfl, Nat.le_of_ble_eq_true rfl⟩) (va_recv hK hP (ci := 1) (q0 := (3 + k0)) rfl (wP_at (by omega))) hP hK hD hN hS hA (wP_at (by omega)) rfl hl.1 rfl (Nat.le_of_ble_eq_true rfl) dX2_beginPulse_44 ⟨Nat.le_refl _, Nat.le_refl _⟩ (fun H locs hP hD hS => ?_)
      have hP : va_P E.1 vwCl (wP E Bp g (bpSkip k0 z) lo up pk) H := Eq.mp (congrArg (fun w => va_P E.1 vwCl w H) (wP_skip (E := E) (B := Bp) (g := g) (z := z) (l := lo) (u := up) (q := pk) (k := k0) (by omega) )) hP
      have hD : va_D (va_A (wP E Bp g z lo up pk) s.heap.size) (wP E Bp g (bpSkip k0 z) lo up pk) := Eq.mp (congrArg (fun w => va_D (va_A (wP E Bp g z lo up pk) s.heap.size) w) (wP_skip (E := E) (B := Bp) (g := g) (z := z) (l := lo) (u := up) (q := pk) (k := k0) (by omega) )) hD
      exact gretv hx hb hr hlocks hP hD hS (by simp only [beginP, if_pos c_5, if_neg c_36, if_neg c_40]) dX2_beginPulse_47
  · refine lv_aload_n hx hb dX2_beginPulse_8 rfl (lv_at hl 0 rfl) ?_
    refine va_get (D := E.1) (ci := 2) (v := .int (z 22)) (C := RX2) (T := TX2) (N := 17) hx hb hts hiX2 hown hK hP 0 rfl rfl 12 (by decide) hf70 (fun _ h9 => h9) rfl dX2_beginPulse_9 ?_
    refine lv_aload_n hx hb dX2_beginPulse_12 rfl (lv_at hl 0 rfl) ?_
    refine va_get (D := E.1) (ci := 2) (v := .ref (Bp 1)) (C := RX2) (T := TX2) (N := 17) hx hb hts hiX2 hown hK hP 0 rfl rfl 0 (by decide) hf18 (fun _ h9 => h9) rfl dX2_beginPulse_13 ?_
    refine lv_bipush (v := 9) hx hb dX2_beginPulse_16 (by decide) ?_
    refine gald (x := z 9) hx hb hK hP 1 rfl 9 (rfl) (by decide) (by decide) (hg 9 (by omega)) dX2_beginPulse_18 ?_
    refine lv_icmp_ge (tgt := 26) hx hb dX2_beginPulse_19 (by decide) (fun c_19 => ?_) (fun c_19 => ?_)
    · refine lv_iconst (v := 0) hx hb dX2_beginPulse_26 (by decide) ?_
      refine lv_istore_n (lv' := [(2, .int 0), (0, .ref (Bp 0)), (1, .ref (Bp (3 + k0)))]) hx hb dX2_beginPulse_27 rfl hl (by decide) rfl (fun ls hl => ?_)
      refine lv_aload_n hx hb dX2_beginPulse_28 rfl (lv_at hl 1 rfl) ?_
      refine va_get (D := E.1) (ci := 2) (v := .int (z 17)) (C := RX2) (T := TX2) (N := 17) hx hb hts hiX2 hown hK hP 0 rfl rfl 5 (by decide) hf49 (fun _ h9 => h9) rfl dX2_beginPulse_29 ?_
      refine lv_aload_n hx hb dX2_beginPulse_32 rfl (lv_at hl 1 rfl) ?_
      refine va_get (D := E.1) (ci := 2) (v := .int (z 18)) (C := RX2) (T := TX2) (N := 17) hx hb hts hiX2 hown hK hP 0 rfl rfl 6 (by decide) hf52 (fun _ h9 => h9) rfl dX2_beginPulse_33 ?_
      refine lv_icmp_lt (tgt := 48) hx hb dX2_beginPulse_36 (by decide) (fun c_36 => ?_) (fun c_36 => ?_)
      · refine lv_aload_n hx hb dX2_beginPulse_48 rfl (lv_at hl 2 rfl) ?_
        refine va_get (D := E.1) (ci := 1) (v := .int (z (35 + 7 * k0 + 0))) (C := RX1) (T := TX1) (N := 7) hx hb hts hiX1 hown hK hP (3 + k0) (wP_at (by omega)) rfl 0 (by decide) hf149 (fun _ h9 => h9) rfl dX2_beginPulse_49 ?_
        refine lv_aload_n hx hb dX2_beginPulse_52 rfl (lv_at hl 1 rfl) ?_
        refine gv0i (As := []) (rest := [.int (z (35 + 7 * k0 + 0))]) ⟨hx, hb, hml, hown, hts⟩ (c_X2_activeCurrents l E Bp g z lo up pk hz) (cwV 0 hts gX2_beginPulse_X2_activeCurrents rfl rfl rfl (by decide +kernel) ⟨Nat.le_of_ble_eq_true rfl, Nat.le_of_ble_eq_true rfl⟩) (va_recv hK hP (ci := 2) (q0 := 0) rfl rfl) hP hK hD hN hS hA rfl hl.1 rfl (Nat.le_of_ble_eq_true rfl) dX2_beginPulse_53 ⟨Nat.le_refl _, Nat.le_refl _⟩ (fun H locs hP hD hS => ?_)
        refine lv_aload_n hx hb dX2_beginPulse_56 rfl (lv_at hl 1 rfl) ?_
        refine va_get (D := E.1) (ci := 2) (v := .int (z 16)) (C := RX2) (T := TX2) (N := 17) hx hb hts hiX2 hown hK hP 0 rfl rfl 3 (by decide) hf34 (fun _ h9 => h9) rfl dX2_beginPulse_57 ?_
        refine gsnPi (As := [.int (sumC (mOf z) z), .int (z 16)]) (rest := [.int (z (35 + 7 * k0 + 0))]) ⟨hx, hb, hml, hown, hts⟩ (c_X4_quotient l E (sumC (mOf z) z) (z 16) (zOK_m0 hz)) (⟨va_cnB 2 hts ggX2_beginPulse_X4_quotient rfl rfl rfl hN.2.1 (hts (.initialized RX4) (List.mem_of_getElem? (i := 23) rfl)) (by decide +kernel) ⟨Nat.le_of_ble_eq_true rfl, Nat.le_of_ble_eq_true rfl⟩, hts (.static yX4_quotient) (List.mem_of_getElem? (i := 22) rfl), trivial⟩) hP hK hD hN hS hA rfl hl.1 rfl (Nat.le_of_ble_eq_true rfl) dX2_beginPulse_60 ⟨Nat.le_refl _, Nat.le_refl _⟩ (fun H locs hP hD hS => ?_)
        refine lv_isub hx hb dX2_beginPulse_63 ?_
        refine lv_istore_n (lv' := [(3, .int ((z (35 + 7 * k0 + 0)) - ((sumC (mOf z) z) / (z 16)))), (2, .int 0), (0, .ref (Bp 0)), (1, .ref (Bp (3 + k0)))]) hx hb dX2_beginPulse_64 rfl hl (by decide) rfl (fun ls hl => ?_)
        refine lv_aload_n hx hb dX2_beginPulse_65 rfl (lv_at hl 2 rfl) ?_
        refine va_get (D := E.1) (ci := 2) (v := .int (z 21)) (C := RX2) (T := TX2) (N := 17) hx hb hts hiX2 hown hK hP 0 rfl rfl 8 (by decide) hf58 (fun _ h9 => h9) rfl dX2_beginPulse_66 ?_
        refine lv_iload_n hx hb dX2_beginPulse_69 rfl (lv_at hl 0 rfl) ?_
        refine lv_aload_n hx hb dX2_beginPulse_70 rfl (lv_at hl 2 rfl) ?_
        refine va_get (D := E.1) (ci := 2) (v := .ref (Bp 1)) (C := RX2) (T := TX2) (N := 17) hx hb hts hiX2 hown hK hP 0 rfl rfl 0 (by decide) hf18 (fun _ h9 => h9) rfl dX2_beginPulse_71 ?_
        refine lv_bipush (v := 14) hx hb dX2_beginPulse_74 (by decide) ?_
        refine gald (x := z 14) hx hb hK hP 1 rfl 14 (rfl) (by decide) (by decide) (hg 14 (by omega)) dX2_beginPulse_76 ?_
        refine lv_imul hx hb dX2_beginPulse_77 ?_
        refine lv_sipush (v := 1000) hx hb dX2_beginPulse_78 (by decide) ?_
        refine lv_idiv hx hb dX2_beginPulse_81 (by decide) ?_
        refine lv_isub hx hb dX2_beginPulse_82 ?_
        refine lv_istore (lv' := [(4, .int ((z 21) - ((((z (35 + 7 * k0 + 0)) - ((sumC (mOf z) z) / (z 16))) * (z 14)) / 1000))), (3, .int ((z (35 + 7 * k0 + 0)) - ((sumC (mOf z) z) / (z 16)))), (2, .int 0), (0, .ref (Bp 0)), (1, .ref (Bp (3 + k0)))]) hx hb dX2_beginPulse_83 hl (by decide) rfl (fun ls hl => ?_)
        refine lv_aload_n hx hb dX2_beginPulse_85 rfl (lv_at hl 4 rfl) ?_
        refine lv_iload hx hb dX2_beginPulse_86 (lv_at hl 0 rfl) ?_
        refine lv_iconst (v := 0) hx hb dX2_beginPulse_88 (by decide) ?_
        refine lv_sipush (v := 900) hx hb dX2_beginPulse_89 (by decide) ?_
        refine gsnPi (As := [.int ((z 21) - ((((z (35 + 7 * k0 + 0)) - ((sumC (mOf z) z) / (z 16))) * (z 14)) / 1000)), .int 0, .int 900]) (rest := [.ref (Bp (3 + k0))]) ⟨hx, hb, hml, hown, hts⟩ (c_X4_clamp l E ((z 21) - ((((z (35 + 7 * k0 + 0)) - ((sumC (mOf z) z) / (z 16))) * (z 14)) / 1000)) 0 900) (⟨va_cnB 3 hts ggX2_beginPulse_X4_clamp rfl rfl rfl hN.1 (hts (.initialized RX4) (List.mem_of_getElem? (i := 23) rfl)) (by decide +kernel) ⟨Nat.le_of_ble_eq_true rfl, Nat.le_of_ble_eq_true rfl⟩, hts (.static yX4_clamp) (List.mem_of_getElem? (i := 25) rfl), trivial⟩) hP hK hD hN hS hA rfl hl.1 rfl (Nat.le_of_ble_eq_true rfl) dX2_beginPulse_92 ⟨Nat.le_refl _, Nat.le_refl _⟩ (fun H locs hP hD hS => ?_)
        refine gvKv (3 + k0) (As := [.int (clampI ((z 21) - ((((z (35 + 7 * k0 + 0)) - ((sumC (mOf z) z) / (z 16))) * (z 14)) / 1000)) 0 900)]) (rest := []) ⟨hx, hb, hml, hown, hts⟩ (c_X1_beginPulse l E (Bp (3 + k0)) (fun j => z (35 + 7 * k0 + j)) (clampI ((z 21) - ((((z (35 + 7 * k0 + 0)) - ((sumC (mOf z) z) / (z 16))) * (z 14)) / 1000)) 0 900)) (cwV 1 hts gX2_beginPulse_X1_beginPulse rfl rfl rfl (by decide +kernel) ⟨Nat.le_of_ble_eq_true rfl, Nat.le_of_ble_eq_true rfl⟩) (va_recv hK hP (ci := 1) (q0 := (3 + k0)) rfl (wP_at (by omega))) hP hK hD hN hS hA (wP_at (by omega)) rfl hl.1 rfl (Nat.le_of_ble_eq_true rfl) dX2_beginPulse_95 ⟨Nat.le_refl _, Nat.le_refl _⟩ (fun H locs hP hD hS => ?_)
        have hP : va_P E.1 vwCl (wP E Bp g (bpGo k0 z) lo up pk) H := Eq.mp (congrArg (fun w => va_P E.1 vwCl w H) (wP_go (E := E) (B := Bp) (g := g) (z := z) (l := lo) (u := up) (q := pk) (k := k0) (by omega) rfl)) hP
        have hD : va_D (va_A (wP E Bp g z lo up pk) s.heap.size) (wP E Bp g (bpGo k0 z) lo up pk) := Eq.mp (congrArg (fun w => va_D (va_A (wP E Bp g z lo up pk) s.heap.size) w) (wP_go (E := E) (B := Bp) (g := g) (z := z) (l := lo) (u := up) (q := pk) (k := k0) (by omega) rfl)) hD
        exact gretv hx hb hr hlocks hP hD hS (by simp only [beginP, if_neg c_5, if_pos c_19, if_pos c_36]) dX2_beginPulse_98
      · refine lv_iload_n hx hb dX2_beginPulse_39 rfl (lv_at hl 0 rfl) ?_
        refine lv_if_eq (tgt := 48) hx hb dX2_beginPulse_40 (by decide) (fun c_40 => ?_) (fun c_40 => absurd (by decide) c_40)
        refine lv_aload_n hx hb dX2_beginPulse_48 rfl (lv_at hl 2 rfl) ?_
        refine va_get (D := E.1) (ci := 1) (v := .int (z (35 + 7 * k0 + 0))) (C := RX1) (T := TX1) (N := 7) hx hb hts hiX1 hown hK hP (3 + k0) (wP_at (by omega)) rfl 0 (by decide) hf149 (fun _ h9 => h9) rfl dX2_beginPulse_49 ?_
        refine lv_aload_n hx hb dX2_beginPulse_52 rfl (lv_at hl 1 rfl) ?_
        refine gv0i (As := []) (rest := [.int (z (35 + 7 * k0 + 0))]) ⟨hx, hb, hml, hown, hts⟩ (c_X2_activeCurrents l E Bp g z lo up pk hz) (cwV 0 hts gX2_beginPulse_X2_activeCurrents rfl rfl rfl (by decide +kernel) ⟨Nat.le_of_ble_eq_true rfl, Nat.le_of_ble_eq_true rfl⟩) (va_recv hK hP (ci := 2) (q0 := 0) rfl rfl) hP hK hD hN hS hA rfl hl.1 rfl (Nat.le_of_ble_eq_true rfl) dX2_beginPulse_53 ⟨Nat.le_refl _, Nat.le_refl _⟩ (fun H locs hP hD hS => ?_)
        refine lv_aload_n hx hb dX2_beginPulse_56 rfl (lv_at hl 1 rfl) ?_
        refine va_get (D := E.1) (ci := 2) (v := .int (z 16)) (C := RX2) (T := TX2) (N := 17) hx hb hts hiX2 hown hK hP 0 rfl rfl 3 (by decide) hf34 (fun _ h9 => h9) rfl dX2_beginPulse_57 ?_
        refine gsnPi (As := [.int (sumC (mOf z) z), .int (z 16)]) (rest := [.int (z (35 + 7 * k0 + 0))]) ⟨hx, hb, hml, hown, hts⟩ (c_X4_quotient l E (sumC (mOf z) z) (z 16) (zOK_m0 hz)) (⟨va_cnB 2 hts ggX2_beginPulse_X4_quotient rfl rfl rfl hN.2.1 (hts (.initialized RX4) (List.mem_of_getElem? (i := 23) rfl)) (by decide +kernel) ⟨Nat.le_of_ble_eq_true rfl, Nat.le_of_ble_eq_true rfl⟩, hts (.static yX4_quotient) (List.mem_of_getElem? (i := 22) rfl), trivial⟩) hP hK hD hN hS hA rfl hl.1 rfl (Nat.le_of_ble_eq_true rfl) dX2_beginPulse_60 ⟨Nat.le_refl _, Nat.le_refl _⟩ (fun H locs hP hD hS => ?_)
        refine lv_isub hx hb dX2_beginPulse_63 ?_
        refine lv_istore_n (lv' := [(3, .int ((z (35 + 7 * k0 + 0)) - ((sumC (mOf z) z) / (z 16)))), (2, .int 0), (0, .ref (Bp 0)), (1, .ref (Bp (3 + k0)))]) hx hb dX2_beginPulse_64 rfl hl (by decide) rfl (fun ls hl => ?_)
        refine lv_aload_n hx hb dX2_beginPulse_65 rfl (lv_at hl 2 rfl) ?_
        refine va_get (D := E.1) (ci := 2) (v := .int (z 21)) (C := RX2) (T := TX2) (N := 17) hx hb hts hiX2 hown hK hP 0 rfl rfl 8 (by decide) hf58 (fun _ h9 => h9) rfl dX2_beginPulse_66 ?_
        refine lv_iload_n hx hb dX2_beginPulse_69 rfl (lv_at hl 0 rfl) ?_
        refine lv_aload_n hx hb dX2_beginPulse_70 rfl (lv_at hl 2 rfl) ?_
        refine va_get (D := E.1) (ci := 2) (v := .ref (Bp 1)) (C := RX2) (T := TX2) (N := 17) hx hb hts hiX2 hown hK hP 0 rfl rfl 0 (by decide) hf18 (fun _ h9 => h9) rfl dX2_beginPulse_71 ?_
        refine lv_bipush (v := 14) hx hb dX2_beginPulse_74 (by decide) ?_
        refine gald (x := z 14) hx hb hK hP 1 rfl 14 (rfl) (by decide) (by decide) (hg 14 (by omega)) dX2_beginPulse_76 ?_
        refine lv_imul hx hb dX2_beginPulse_77 ?_
        refine lv_sipush (v := 1000) hx hb dX2_beginPulse_78 (by decide) ?_
        refine lv_idiv hx hb dX2_beginPulse_81 (by decide) ?_
        refine lv_isub hx hb dX2_beginPulse_82 ?_
        refine lv_istore (lv' := [(4, .int ((z 21) - ((((z (35 + 7 * k0 + 0)) - ((sumC (mOf z) z) / (z 16))) * (z 14)) / 1000))), (3, .int ((z (35 + 7 * k0 + 0)) - ((sumC (mOf z) z) / (z 16)))), (2, .int 0), (0, .ref (Bp 0)), (1, .ref (Bp (3 + k0)))]) hx hb dX2_beginPulse_83 hl (by decide) rfl (fun ls hl => ?_)
        refine lv_aload_n hx hb dX2_beginPulse_85 rfl (lv_at hl 4 rfl) ?_
        refine lv_iload hx hb dX2_beginPulse_86 (lv_at hl 0 rfl) ?_
        refine lv_iconst (v := 0) hx hb dX2_beginPulse_88 (by decide) ?_
        refine lv_sipush (v := 900) hx hb dX2_beginPulse_89 (by decide) ?_
        refine gsnPi (As := [.int ((z 21) - ((((z (35 + 7 * k0 + 0)) - ((sumC (mOf z) z) / (z 16))) * (z 14)) / 1000)), .int 0, .int 900]) (rest := [.ref (Bp (3 + k0))]) ⟨hx, hb, hml, hown, hts⟩ (c_X4_clamp l E ((z 21) - ((((z (35 + 7 * k0 + 0)) - ((sumC (mOf z) z) / (z 16))) * (z 14)) / 1000)) 0 900) (⟨va_cnB 3 hts ggX2_beginPulse_X4_clamp rfl rfl rfl hN.1 (hts (.initialized RX4) (List.mem_of_getElem? (i := 23) rfl)) (by decide +kernel) ⟨Nat.le_of_ble_eq_true rfl, Nat.le_of_ble_eq_true rfl⟩, hts (.static yX4_clamp) (List.mem_of_getElem? (i := 25) rfl), trivial⟩) hP hK hD hN hS hA rfl hl.1 rfl (Nat.le_of_ble_eq_true rfl) dX2_beginPulse_92 ⟨Nat.le_refl _, Nat.le_refl _⟩ (fun H locs hP hD hS => ?_)
        refine gvKv (3 + k0) (As := [.int (clampI ((z 21) - ((((z (35 + 7 * k0 + 0)) - ((sumC (mOf z) z) / (z 16))) * (z 14)) / 1000)) 0 900)]) (rest := []) ⟨hx, hb, hml, hown, hts⟩ (c_X1_beginPulse l E (Bp (3 + k0)) (fun j => z (35 + 7 * k0 + j)) (clampI ((z 21) - ((((z (35 + 7 * k0 + 0)) - ((sumC (mOf z) z) / (z 16))) * (z 14)) / 1000)) 0 900)) (cwV 1 hts gX2_beginPulse_X1_beginPulse rfl rfl rfl (by decide +kernel) ⟨Nat.le_of_ble_eq_true rfl, Nat.le_of_ble_eq_true rfl⟩) (va_recv hK hP (ci := 1) (q0 := (3 + k0)) rfl (wP_at (by omega))) hP hK hD hN hS hA (wP_at (by omega)) rfl hl.1 rfl (Nat.le_of_ble_eq_true rfl) dX2_beginPulse_95 ⟨Nat.le_refl _, Nat.le_refl _⟩ (fun H locs hP hD hS => ?_)
        have hP : va_P E.1 vwCl (wP E Bp g (bpGo k0 z) lo up pk) H := Eq.mp (congrArg (fun w => va_P E.1 vwCl w H) (wP_go (E := E) (B := Bp) (g := g) (z := z) (l := lo) (u := up) (q := pk) (k := k0) (by omega) rfl)) hP
        have hD : va_D (va_A (wP E Bp g z lo up pk) s.heap.size) (wP E Bp g (bpGo k0 z) lo up pk) := Eq.mp (congrArg (fun w => va_D (va_A (wP E Bp g z lo up pk) s.heap.size) w) (wP_go (E := E) (B := Bp) (g := g) (z := z) (l := lo) (u := up) (q := pk) (k := k0) (by omega) rfl)) hD
        exact gretv hx hb hr hlocks hP hD hS (by simp only [beginP, if_neg c_5, if_pos c_19, if_neg c_36, if_pos c_40]) dX2_beginPulse_98
    · refine lv_iconst (v := 1) hx hb dX2_beginPulse_22 (by decide) ?_
      refine lv_goto (tgt := 27) hx hb dX2_beginPulse_23 (by decide) ?_
      refine lv_istore_n (lv' := [(2, .int 1), (0, .ref (Bp 0)), (1, .ref (Bp (3 + k0)))]) hx hb dX2_beginPulse_27 rfl hl (by decide) rfl (fun ls hl => ?_)
      refine lv_aload_n hx hb dX2_beginPulse_28 rfl (lv_at hl 1 rfl) ?_
      refine va_get (D := E.1) (ci := 2) (v := .int (z 17)) (C := RX2) (T := TX2) (N := 17) hx hb hts hiX2 hown hK hP 0 rfl rfl 5 (by decide) hf49 (fun _ h9 => h9) rfl dX2_beginPulse_29 ?_
      refine lv_aload_n hx hb dX2_beginPulse_32 rfl (lv_at hl 1 rfl) ?_
      refine va_get (D := E.1) (ci := 2) (v := .int (z 18)) (C := RX2) (T := TX2) (N := 17) hx hb hts hiX2 hown hK hP 0 rfl rfl 6 (by decide) hf52 (fun _ h9 => h9) rfl dX2_beginPulse_33 ?_
      refine lv_icmp_lt (tgt := 48) hx hb dX2_beginPulse_36 (by decide) (fun c_36 => ?_) (fun c_36 => ?_)
      · refine lv_aload_n hx hb dX2_beginPulse_48 rfl (lv_at hl 2 rfl) ?_
        refine va_get (D := E.1) (ci := 1) (v := .int (z (35 + 7 * k0 + 0))) (C := RX1) (T := TX1) (N := 7) hx hb hts hiX1 hown hK hP (3 + k0) (wP_at (by omega)) rfl 0 (by decide) hf149 (fun _ h9 => h9) rfl dX2_beginPulse_49 ?_
        refine lv_aload_n hx hb dX2_beginPulse_52 rfl (lv_at hl 1 rfl) ?_
        refine gv0i (As := []) (rest := [.int (z (35 + 7 * k0 + 0))]) ⟨hx, hb, hml, hown, hts⟩ (c_X2_activeCurrents l E Bp g z lo up pk hz) (cwV 0 hts gX2_beginPulse_X2_activeCurrents rfl rfl rfl (by decide +kernel) ⟨Nat.le_of_ble_eq_true rfl, Nat.le_of_ble_eq_true rfl⟩) (va_recv hK hP (ci := 2) (q0 := 0) rfl rfl) hP hK hD hN hS hA rfl hl.1 rfl (Nat.le_of_ble_eq_true rfl) dX2_beginPulse_53 ⟨Nat.le_refl _, Nat.le_refl _⟩ (fun H locs hP hD hS => ?_)
        refine lv_aload_n hx hb dX2_beginPulse_56 rfl (lv_at hl 1 rfl) ?_
        refine va_get (D := E.1) (ci := 2) (v := .int (z 16)) (C := RX2) (T := TX2) (N := 17) hx hb hts hiX2 hown hK hP 0 rfl rfl 3 (by decide) hf34 (fun _ h9 => h9) rfl dX2_beginPulse_57 ?_
        refine gsnPi (As := [.int (sumC (mOf z) z), .int (z 16)]) (rest := [.int (z (35 + 7 * k0 + 0))]) ⟨hx, hb, hml, hown, hts⟩ (c_X4_quotient l E (sumC (mOf z) z) (z 16) (zOK_m0 hz)) (⟨va_cnB 2 hts ggX2_beginPulse_X4_quotient rfl rfl rfl hN.2.1 (hts (.initialized RX4) (List.mem_of_getElem? (i := 23) rfl)) (by decide +kernel) ⟨Nat.le_of_ble_eq_true rfl, Nat.le_of_ble_eq_true rfl⟩, hts (.static yX4_quotient) (List.mem_of_getElem? (i := 22) rfl), trivial⟩) hP hK hD hN hS hA rfl hl.1 rfl (Nat.le_of_ble_eq_true rfl) dX2_beginPulse_60 ⟨Nat.le_refl _, Nat.le_refl _⟩ (fun H locs hP hD hS => ?_)
        refine lv_isub hx hb dX2_beginPulse_63 ?_
        refine lv_istore_n (lv' := [(3, .int ((z (35 + 7 * k0 + 0)) - ((sumC (mOf z) z) / (z 16)))), (2, .int 1), (0, .ref (Bp 0)), (1, .ref (Bp (3 + k0)))]) hx hb dX2_beginPulse_64 rfl hl (by decide) rfl (fun ls hl => ?_)
        refine lv_aload_n hx hb dX2_beginPulse_65 rfl (lv_at hl 2 rfl) ?_
        refine va_get (D := E.1) (ci := 2) (v := .int (z 21)) (C := RX2) (T := TX2) (N := 17) hx hb hts hiX2 hown hK hP 0 rfl rfl 8 (by decide) hf58 (fun _ h9 => h9) rfl dX2_beginPulse_66 ?_
        refine lv_iload_n hx hb dX2_beginPulse_69 rfl (lv_at hl 0 rfl) ?_
        refine lv_aload_n hx hb dX2_beginPulse_70 rfl (lv_at hl 2 rfl) ?_
        refine va_get (D := E.1) (ci := 2) (v := .ref (Bp 1)) (C := RX2) (T := TX2) (N := 17) hx hb hts hiX2 hown hK hP 0 rfl rfl 0 (by decide) hf18 (fun _ h9 => h9) rfl dX2_beginPulse_71 ?_
        refine lv_bipush (v := 14) hx hb dX2_beginPulse_74 (by decide) ?_
        refine gald (x := z 14) hx hb hK hP 1 rfl 14 (rfl) (by decide) (by decide) (hg 14 (by omega)) dX2_beginPulse_76 ?_
        refine lv_imul hx hb dX2_beginPulse_77 ?_
        refine lv_sipush (v := 1000) hx hb dX2_beginPulse_78 (by decide) ?_
        refine lv_idiv hx hb dX2_beginPulse_81 (by decide) ?_
        refine lv_isub hx hb dX2_beginPulse_82 ?_
        refine lv_istore (lv' := [(4, .int ((z 21) - ((((z (35 + 7 * k0 + 0)) - ((sumC (mOf z) z) / (z 16))) * (z 14)) / 1000))), (3, .int ((z (35 + 7 * k0 + 0)) - ((sumC (mOf z) z) / (z 16)))), (2, .int 1), (0, .ref (Bp 0)), (1, .ref (Bp (3 + k0)))]) hx hb dX2_beginPulse_83 hl (by decide) rfl (fun ls hl => ?_)
        refine lv_aload_n hx hb dX2_beginPulse_85 rfl (lv_at hl 4 rfl) ?_
        refine lv_iload hx hb dX2_beginPulse_86 (lv_at hl 0 rfl) ?_
        refine lv_iconst (v := 0) hx hb dX2_beginPulse_88 (by decide) ?_
        refine lv_sipush (v := 900) hx hb dX2_beginPulse_89 (by decide) ?_
        refine gsnPi (As := [.int ((z 21) - ((((z (35 + 7 * k0 + 0)) - ((sumC (mOf z) z) / (z 16))) * (z 14)) / 1000)), .int 0, .int 900]) (rest := [.ref (Bp (3 + k0))]) ⟨hx, hb, hml, hown, hts⟩ (c_X4_clamp l E ((z 21) - ((((z (35 + 7 * k0 + 0)) - ((sumC (mOf z) z) / (z 16))) * (z 14)) / 1000)) 0 900) (⟨va_cnB 3 hts ggX2_beginPulse_X4_clamp rfl rfl rfl hN.1 (hts (.initialized RX4) (List.mem_of_getElem? (i := 23) rfl)) (by decide +kernel) ⟨Nat.le_of_ble_eq_true rfl, Nat.le_of_ble_eq_true rfl⟩, hts (.static yX4_clamp) (List.mem_of_getElem? (i := 25) rfl), trivial⟩) hP hK hD hN hS hA rfl hl.1 rfl (Nat.le_of_ble_eq_true rfl) dX2_beginPulse_92 ⟨Nat.le_refl _, Nat.le_refl _⟩ (fun H locs hP hD hS => ?_)
        refine gvKv (3 + k0) (As := [.int (clampI ((z 21) - ((((z (35 + 7 * k0 + 0)) - ((sumC (mOf z) z) / (z 16))) * (z 14)) / 1000)) 0 900)]) (rest := []) ⟨hx, hb, hml, hown, hts⟩ (c_X1_beginPulse l E (Bp (3 + k0)) (fun j => z (35 + 7 * k0 + j)) (clampI ((z 21) - ((((z (35 + 7 * k0 + 0)) - ((sumC (mOf z) z) / (z 16))) * (z 14)) / 1000)) 0 900)) (cwV 1 hts gX2_beginPulse_X1_beginPulse rfl rfl rfl (by decide +kernel) ⟨Nat.le_of_ble_eq_true rfl, Nat.le_of_ble_eq_true rfl⟩) (va_recv hK hP (ci := 1) (q0 := (3 + k0)) rfl (wP_at (by omega))) hP hK hD hN hS hA (wP_at (by omega)) rfl hl.1 rfl (Nat.le_of_ble_eq_true rfl) dX2_beginPulse_95 ⟨Nat.le_refl _, Nat.le_refl _⟩ (fun H locs hP hD hS => ?_)
        have hP : va_P E.1 vwCl (wP E Bp g (bpGo k0 z) lo up pk) H := Eq.mp (congrArg (fun w => va_P E.1 vwCl w H) (wP_go (E := E) (B := Bp) (g := g) (z := z) (l := lo) (u := up) (q := pk) (k := k0) (by omega) rfl)) hP
        have hD : va_D (va_A (wP E Bp g z lo up pk) s.heap.size) (wP E Bp g (bpGo k0 z) lo up pk) := Eq.mp (congrArg (fun w => va_D (va_A (wP E Bp g z lo up pk) s.heap.size) w) (wP_go (E := E) (B := Bp) (g := g) (z := z) (l := lo) (u := up) (q := pk) (k := k0) (by omega) rfl)) hD
        exact gretv hx hb hr hlocks hP hD hS (by simp only [beginP, if_neg c_5, if_neg c_19, if_pos c_36]) dX2_beginPulse_98
      · refine lv_iload_n hx hb dX2_beginPulse_39 rfl (lv_at hl 0 rfl) ?_
        refine lv_if_eq (tgt := 48) hx hb dX2_beginPulse_40 (by decide) (fun c_40 => absurd c_40 (by decide)) (fun c_40 => ?_)
        refine lv_aload_n hx hb dX2_beginPulse_43 rfl (lv_at hl 2 rfl) ?_
        refine gvKv (3 + k0) (As := []) (rest := []) ⟨hx, hb, hml, hown, hts⟩ (c_X1_skipPulse l E (Bp (3 + k0)) (fun j => z (35 + 7 * k0 + j))) (cwV 0 hts gX2_beginPulse_X1_skipPulse rfl rfl rfl (by decide +kernel) ⟨Nat.le_of_ble_eq_true rfl, Nat.le_of_ble_eq_true rfl⟩) (va_recv hK hP (ci := 1) (q0 := (3 + k0)) rfl (wP_at (by omega))) hP hK hD hN hS hA (wP_at (by omega)) rfl hl.1 rfl (Nat.le_of_ble_eq_true rfl) dX2_beginPulse_44 ⟨Nat.le_refl _, Nat.le_refl _⟩ (fun H locs hP hD hS => ?_)
        have hP : va_P E.1 vwCl (wP E Bp g (bpSkip k0 z) lo up pk) H := Eq.mp (congrArg (fun w => va_P E.1 vwCl w H) (wP_skip (E := E) (B := Bp) (g := g) (z := z) (l := lo) (u := up) (q := pk) (k := k0) (by omega) )) hP
        have hD : va_D (va_A (wP E Bp g z lo up pk) s.heap.size) (wP E Bp g (bpSkip k0 z) lo up pk) := Eq.mp (congrArg (fun w => va_D (va_A (wP E Bp g z lo up pk) s.heap.size) w) (wP_skip (E := E) (B := Bp) (g := g) (z := z) (l := lo) (u := up) (q := pk) (k := k0) (by omega) )) hD
        exact gretv hx hb hr hlocks hP hD hS (by simp only [beginP, if_neg c_5, if_neg c_19, if_neg c_36, if_neg c_40]) dX2_beginPulse_47

set_option maxHeartbeats 4000000 in
set_option maxRecDepth 100000 in
theorem c_X2_beginPulses (l : Launch) (E : EE) (Bp : Nat → Nat) (g z : Nat → Int32) (lo up pk : Int32) (v0 : Int32) (hg : ∀ k, k < 15 → g k = z k) (hz : zOK z) (hrun : ¬ runsI z = 0) : GM l yX2_beginPulses wsX2_beginPulses 2 46 E (wP E Bp g z lo up pk) [.ref (Bp 0), .int v0] (wP E Bp g (slotA v0 (z 22) (mOf z) 0 z) lo up pk) (none) := by
  intro sz
  refine Met.ofW (cc := cX2_beginPulses) (maxL := 3) (ret := none) (by decide) rfl ?_
  intro p e s m args below meth c s₁ B hml hv
  obtain ⟨rfl, rfl, hP, hK, hD0, hN⟩ := hv
  have hx := B.exec
  have hb := B.bytes
  have hr := B.returns
  have hts := atoms_spec (ws := wsX2_beginPulses) B.pre
  have hown : s.vm.findClass RX2 = some m.cls := findClass_of_methodNamed B.named
  have hlocks := B.notSynchronized
  have hD := hD0.self (sz := s.heap.size)
  have hA : ∀ q : Nat, s.heap.size ≤ q → va_A (wP E Bp g z lo up pk) s.heap.size q := fun q h => Or.inr h
  have hS : va_S (va_A (wP E Bp g z lo up pk) s.heap.size) s.heap s.heap [] := va_S.rf
  have hl := lv_entry ([.ref (Bp 0), .int v0]) (n := 3) (Nat.le_of_ble_eq_true rfl)
  rw [lg_entry_eq]
  generalize (lg_sl ([.ref (Bp 0), .int v0]) ++ List.replicate (3 - (lg_sl ([.ref (Bp 0), .int v0])).length) Slot.unset).toArray = ls at hl ⊢
  have hl : lv_has ls 3 [(0, .ref (Bp 0)), (1, .int v0)] := hl
  have hf25 := hts (.fieldLink RX2 25 "PhaseConverter$Plant" "phases" "[LPhaseConverter$Phase;") (List.mem_of_getElem? (i := 2) rfl)
  have hf34 := hts (.fieldLink RX2 34 "PhaseConverter$Plant" "active" "I") (List.mem_of_getElem? (i := 1) rfl)
  have hiX2 : ∀ w ∈ u_ws RX2 TX2 17, w ∈ wsX2_beginPulses := memIn [37, 38, 39, 40, 41, 42, 43, 44, 45, 46, 47, 48, 49, 50, 51, 52, 53] rfl
  have hn4 := hz.2.2.1
  have hmn := hz.2.2.2.2.2.1
  refine lv_iconst (v := 0) hx hb dX2_beginPulses_0 (by decide) ?_
  refine lv_istore_n (lv' := [(2, .int 0), (0, .ref (Bp 0)), (1, .int v0)]) hx hb dX2_beginPulses_1 rfl hl (by decide) rfl (fun ls hl => ?_)
  have L_2 : ∀ (n i : Nat) (z1 : Nat → Int32) (H : Heap) (locs : List Loc) (ls : Array Slot), (i + n = mOf z) → (zOK z1) → (∀ j, j < 35 → j ≠ 26 → z1 j = z j) → (slotA v0 (z 22) n i z1 = slotA v0 (z 22) (mOf z) 0 z) → va_P E.1 vwCl (wP E Bp g z1 lo up pk) H → va_D (va_A (wP E Bp g z lo up pk) s.heap.size) (wP E Bp g z1 lo up pk) → va_S (va_A (wP E Bp g z lo up pk) s.heap.size) s.heap H locs → lv_has ls 3 [(2, .int (nI i)), (0, .ref (Bp 0)), (1, .int v0)] → W p l e (gR wsX2_beginPulses 2 46) s m ([.ref (Bp 0), .int v0] : List Value).toArray below meth c H locs 0 0 (gMQ below E s (wP E Bp g z lo up pk) (wP E Bp g (slotA v0 (z 22) (mOf z) 0 z) lo up pk) (none) [.ref (Bp 0), .int v0]) (F0 m 2 ls []) := by
    intro n
    induction n with
    | zero =>
      intro i z1 H locs ls hin h1 hlt hfn hP hD hS hl
      have hf : z1 = slotA v0 (z 22) (mOf z) 0 z := hfn
      refine lv_iload_n hx hb dX2_beginPulses_2 rfl (lv_at hl 0 rfl) ?_
      refine lv_aload_n hx hb dX2_beginPulses_3 rfl (lv_at hl 1 rfl) ?_
      refine va_get (D := E.1) (ci := 2) (v := .int (z1 16)) (C := RX2) (T := TX2) (N := 17) hx hb hts hiX2 hown hK hP 0 rfl rfl 3 (by decide) hf34 (fun _ h9 => h9) rfl dX2_beginPulses_4 ?_
      refine lv_icmp_ge (tgt := 50) hx hb dX2_beginPulses_7 (by decide) (fun c_7 => ?_) (fun c_7 => absurd (by rw [hlt 16 (by omega) (by omega), hz.2.2.2.1]; exact nI_le (by omega) (by omega)) c_7)
      exact gretv hx hb hr hlocks hP hD hS (by rw [hf]) dX2_beginPulses_50
    | succ n ih =>
      intro i z1 H locs ls hin h1 hlt hfn hP hD hS hl
      refine lv_iload_n hx hb dX2_beginPulses_2 rfl (lv_at hl 0 rfl) ?_
      refine lv_aload_n hx hb dX2_beginPulses_3 rfl (lv_at hl 1 rfl) ?_
      refine va_get (D := E.1) (ci := 2) (v := .int (z1 16)) (C := RX2) (T := TX2) (N := 17) hx hb hts hiX2 hown hK hP 0 rfl rfl 3 (by decide) hf34 (fun _ h9 => h9) rfl dX2_beginPulses_4 ?_
      refine lv_icmp_ge (tgt := 50) hx hb dX2_beginPulses_7 (by decide) (fun c_7 => absurd c_7 (by rw [hlt 16 (by omega) (by omega), hz.2.2.2.1]; exact nI_ge (by omega) (by omega))) (fun c_7 => ?_)
      refine lv_iload_n hx hb dX2_beginPulses_10 rfl (lv_at hl 0 rfl) ?_
      refine lv_aload_n hx hb dX2_beginPulses_11 rfl (lv_at hl 1 rfl) ?_
      refine va_get (D := E.1) (ci := 2) (v := .ref (Bp 2)) (C := RX2) (T := TX2) (N := 17) hx hb hts hiX2 hown hK hP 0 rfl rfl 1 (by decide) hf25 (fun _ h9 => h9) rfl dX2_beginPulses_12 ?_
      refine va_alen hx hb hK hP 2 1 rfl rfl (v := 4) rfl dX2_beginPulses_15 ?_
      refine lv_icmp_ge (tgt := 50) hx hb dX2_beginPulses_16 (by decide) (fun c_16 => absurd c_16 (nI_ge (b := 4) (by omega) (by omega))) (fun c_16 => ?_)
      refine lv_iload_n hx hb dX2_beginPulses_19 rfl (lv_at hl 2 rfl) ?_
      refine lv_bipush (v := 20) hx hb dX2_beginPulses_20 (by decide) ?_
      refine lv_iload_n hx hb dX2_beginPulses_22 rfl (lv_at hl 0 rfl) ?_
      refine lv_imul hx hb dX2_beginPulses_23 ?_
      refine lv_aload_n hx hb dX2_beginPulses_24 rfl (lv_at hl 1 rfl) ?_
      refine va_get (D := E.1) (ci := 2) (v := .int (z1 16)) (C := RX2) (T := TX2) (N := 17) hx hb hts hiX2 hown hK hP 0 rfl rfl 3 (by decide) hf34 (fun _ h9 => h9) rfl dX2_beginPulses_25 ?_
      refine gsnPi (As := [.int (20 * (nI i)), .int (z1 16)]) (rest := [.int v0]) ⟨hx, hb, hml, hown, hts⟩ (c_X4_quotient l E (20 * (nI i)) (z1 16) (zOK_m0 h1)) (⟨va_cnB 2 hts ggX2_beginPulses_X4_quotient rfl rfl rfl hN.2.1 (hts (.initialized RX4) (List.mem_of_getElem? (i := 4) rfl)) (by decide +kernel) ⟨Nat.le_of_ble_eq_true rfl, Nat.le_of_ble_eq_true rfl⟩, hts (.static yX4_quotient) (List.mem_of_getElem? (i := 3) rfl), trivial⟩) hP hK hD hN hS hA rfl hl.1 rfl (Nat.le_of_ble_eq_true rfl) dX2_beginPulses_28 ⟨Nat.le_refl _, Nat.le_refl _⟩ (fun H locs hP hD hS => ?_)
      obtain ⟨z_1, ez_1⟩ : ∃ y : Nat → Int32, y = (if v0 = ((20 * (nI i)) / (z1 16)) then beginP i (z1 22) z1 else z1) := ⟨_, rfl⟩
      have fzb : z_1 = sbp v0 (z 22) i z1 := by unfold sbp; rw [if_neg (by rw [runsI_of (hlt 20 (by omega) (by omega))]; exact hrun), ← hlt 22 (by omega) (by omega)]; exact ez_1
      have J_31 : ∀ (H : Heap) (locs : List Loc) (ls : Array Slot), va_P E.1 vwCl (wP E Bp g z_1 lo up pk) H → va_D (va_A (wP E Bp g z lo up pk) s.heap.size) (wP E Bp g z_1 lo up pk) → va_S (va_A (wP E Bp g z lo up pk) s.heap.size) s.heap H locs → lv_has ls 3 [(2, .int (nI i)), (0, .ref (Bp 0)), (1, .int v0)] → W p l e (gR wsX2_beginPulses 2 46) s m ([.ref (Bp 0), .int v0] : List Value).toArray below meth c H locs 0 0 (gMQ below E s (wP E Bp g z lo up pk) (wP E Bp g (slotA v0 (z 22) (mOf z) 0 z) lo up pk) (none) [.ref (Bp 0), .int v0]) (F0 m 44 ls []) := by
        intro H locs ls hP hD hS hl
        refine lv_iinc (v := nI (i + 1)) (lv' := [(2, .int (nI (i + 1))), (0, .ref (Bp 0)), (1, .int v0)]) hx hb dX2_beginPulses_44 hl (k := 0) rfl (nI_1 _) (by decide) rfl (fun ls hl => ?_)
        refine lv_goto (tgt := 2) hx hb dX2_beginPulses_47 (by decide) ?_
        exact ih (i + 1) z_1 H locs ls (by omega) (by rw [fzb]; exact sbp_OK h1) (fun j a b => by rw [fzb]; exact (sbp_lt a b).trans (hlt j a b)) (by rw [fzb]; exact hfn) hP hD hS (lv_sub hl [0, 1, 2] rfl)
      refine lv_icmp_ne (tgt := 44) hx hb dX2_beginPulses_31 (by decide) (fun c_31 => ?_) (fun c_31 => ?_)
      · exact J_31 H locs ls (by rw [ez_1]; simp only [if_neg c_31]; exact hP) (by rw [ez_1]; simp only [if_neg c_31]; exact hD) hS (lv_sub hl [0, 1, 2] rfl)
      · refine lv_aload_n hx hb dX2_beginPulses_34 rfl (lv_at hl 1 rfl) ?_
        refine lv_aload_n hx hb dX2_beginPulses_35 rfl (lv_at hl 1 rfl) ?_
        refine va_get (D := E.1) (ci := 2) (v := .ref (Bp 2)) (C := RX2) (T := TX2) (N := 17) hx hb hts hiX2 hown hK hP 0 rfl rfl 1 (by decide) hf25 (fun _ h9 => h9) rfl dX2_beginPulses_36 ?_
        refine lv_iload_n hx hb dX2_beginPulses_39 rfl (lv_at hl 0 rfl) ?_
        refine galdq (b := Bp (3 + i)) hx hb hK hP 2 rfl i (rfl) (by omega) (by decide) rfl dX2_beginPulses_40 ?_
        refine gv0v (As := [.ref (Bp (3 + i))]) (rest := []) ⟨hx, hb, hml, hown, hts⟩ (c_X2_beginPulse l E Bp g z1 lo up pk i (fun k hk => (hg k hk).trans (hlt k (by omega) (by omega)).symm) h1 (by omega)) (cwV 1 hts gX2_beginPulses_X2_beginPulse rfl rfl rfl (by decide +kernel) ⟨Nat.le_of_ble_eq_true rfl, Nat.le_of_ble_eq_true rfl⟩) (va_recv hK hP (ci := 2) (q0 := 0) rfl rfl) hP hK hD hN hS hA rfl hl.1 rfl (Nat.le_of_ble_eq_true rfl) dX2_beginPulses_41 ⟨Nat.le_refl _, Nat.le_refl _⟩ (fun H locs hP hD hS => ?_)
        have hP : va_P E.1 vwCl (wP E Bp g (beginP i (z1 22) z1) lo up pk) H := hP
        have hD : va_D _ (wP E Bp g (beginP i (z1 22) z1) lo up pk) := hD
        exact J_31 H locs ls (by rw [ez_1]; simp only [if_pos c_31]; exact hP) (by rw [ez_1]; simp only [if_pos c_31]; exact hD) hS (lv_sub hl [0, 1, 2] rfl)
  exact L_2 (mOf z) (0) z s.heap [] ls (by omega) (hz) (fun _ _ _ => rfl) rfl hP hD hS (lv_sub hl [0, 1, 2] rfl)

set_option maxHeartbeats 4000000 in
set_option maxRecDepth 100000 in
theorem c_X2_passCycle (l : Launch) (E : EE) (Bp : Nat → Nat) (g z : Nat → Int32) (lo up pk : Int32) (hg : ∀ k, k < 15 → g k = z k) (hz : zOK z) (hZ : zZ z) : GM l yX2_passCycle wsX2_passCycle 3 68 E (wP E Bp g z lo up pk) [.ref (Bp 0)] (wP E Bp g (pcF z lo up pk) ((pcU z lo up pk).2.1) ((pcU z lo up pk).2.2.1) ((pcU z lo up pk).2.2.2.1)) (none) := by
  intro sz
  refine Met.ofW (cc := cX2_passCycle) (maxL := 4) (ret := none) (by decide) rfl ?_
  intro p e s m args below meth c s₁ B hml hv
  obtain ⟨rfl, rfl, hP, hK, hD0, hN⟩ := hv
  have hx := B.exec
  have hb := B.bytes
  have hr := B.returns
  have hts := atoms_spec (ws := wsX2_passCycle) B.pre
  have hown : s.vm.findClass RX2 = some m.cls := findClass_of_methodNamed B.named
  have hlocks := B.notSynchronized
  have hD := hD0.self (sz := s.heap.size)
  have hA : ∀ q : Nat, s.heap.size ≤ q → va_A (wP E Bp g z lo up pk) s.heap.size q := fun q h => Or.inr h
  have hS : va_S (va_A (wP E Bp g z lo up pk) s.heap.size) s.heap s.heap [] := va_S.rf
  have hl := lv_entry ([.ref (Bp 0)]) (n := 4) (Nat.le_of_ble_eq_true rfl)
  rw [lg_entry_eq]
  generalize (lg_sl ([.ref (Bp 0)]) ++ List.replicate (4 - (lg_sl ([.ref (Bp 0)])).length) Slot.unset).toArray = ls at hl ⊢
  have hl : lv_has ls 4 [(0, .ref (Bp 0))] := hl
  have hf18 := hts (.fieldLink RX2 18 "PhaseConverter$Plant" "settings" "[I") (List.mem_of_getElem? (i := 1) rfl)
  have hf49 := hts (.fieldLink RX2 49 "PhaseConverter$Plant" "voltage" "I") (List.mem_of_getElem? (i := 2) rfl)
  have hf67 := hts (.fieldLink RX2 67 "PhaseConverter$Plant" "cycles" "I") (List.mem_of_getElem? (i := 13) rfl)
  have hf70 := hts (.fieldLink RX2 70 "PhaseConverter$Plant" "meanCurrent" "I") (List.mem_of_getElem? (i := 12) rfl)
  have hf73 := hts (.fieldLink RX2 73 "PhaseConverter$Plant" "leastVoltage" "I") (List.mem_of_getElem? (i := 3) rfl)
  have hf76 := hts (.fieldLink RX2 76 "PhaseConverter$Plant" "greatestVoltage" "I") (List.mem_of_getElem? (i := 8) rfl)
  have hiX2 : ∀ w ∈ u_ws RX2 TX2 17, w ∈ wsX2_passCycle := memIn [100, 101, 102, 103, 104, 105, 106, 107, 108, 109, 110, 111, 112, 113, 114, 115, 116] rfl
  refine lv_aload_n hx hb dX2_passCycle_0 rfl (lv_at hl 0 rfl) ?_
  refine gv0i (As := []) (rest := []) ⟨hx, hb, hml, hown, hts⟩ (c_X2_runs l E Bp g z lo up pk) (cwV 0 hts gX2_passCycle_X2_runs rfl rfl rfl (by decide +kernel) ⟨Nat.le_of_ble_eq_true rfl, Nat.le_of_ble_eq_true rfl⟩) (va_recv hK hP (ci := 2) (q0 := 0) rfl rfl) hP hK hD hN hS hA rfl hl.1 rfl (Nat.le_of_ble_eq_true rfl) dX2_passCycle_1 ⟨Nat.le_refl _, Nat.le_refl _⟩ (fun H locs hP hD hS => ?_)
  obtain ⟨z_1, ez_1⟩ : ∃ y : Nat → Int32, y = (if (runsI z) = 0 then z else (if (z 13) ≤ (z 0) then z else stopTo 4 z)) := ⟨_, rfl⟩
  have fz1 : z_1 = cy1 z := ez_1
  have hz1 : zOK z_1 := by rw [fz1]; exact cy1_OK hz
  have hZ1 : zZ z_1 := by rw [fz1]; exact cy1_Z hZ
  have hg1 : ∀ k, k < 15 → g k = z_1 k := fun k hk => by rw [fz1, cy1_g hk]; exact hg k hk
  have J_4 : ∀ (H : Heap) (locs : List Loc) (ls : Array Slot), va_P E.1 vwCl (wP E Bp g z_1 lo up pk) H → va_D (va_A (wP E Bp g z lo up pk) s.heap.size) (wP E Bp g z_1 lo up pk) → va_S (va_A (wP E Bp g z lo up pk) s.heap.size) s.heap H locs → lv_has ls 4 [(0, .ref (Bp 0))] → W p l e (gR wsX2_passCycle 3 68) s m ([.ref (Bp 0)] : List Value).toArray below meth c H locs 0 0 (gMQ below E s (wP E Bp g z lo up pk) (wP E Bp g (pcF z lo up pk) ((pcU z lo up pk).2.1) ((pcU z lo up pk).2.2.1) ((pcU z lo up pk).2.2.2.1)) (none) [.ref (Bp 0)]) (F0 m 28 ls []) := by
    intro H locs ls hP hD hS hl
    refine lv_aload_n hx hb dX2_passCycle_28 rfl (lv_at hl 0 rfl) ?_
    refine gv0i (As := []) (rest := []) ⟨hx, hb, hml, hown, hts⟩ (c_X2_runs l E Bp g z_1 lo up pk) (cwV 0 hts gX2_passCycle_X2_runs rfl rfl rfl (by decide +kernel) ⟨Nat.le_of_ble_eq_true rfl, Nat.le_of_ble_eq_true rfl⟩) (va_recv hK hP (ci := 2) (q0 := 0) rfl rfl) hP hK hD hN hS hA rfl hl.1 rfl (Nat.le_of_ble_eq_true rfl) dX2_passCycle_29 ⟨Nat.le_refl _, Nat.le_refl _⟩ (fun H locs hP hD hS => ?_)
    obtain ⟨z_2, ez_2⟩ : ∃ y : Nat → Int32, y = (if (runsI z_1) = 0 then z_1 else choose (regulate (aim z_1))) := ⟨_, rfl⟩
    have fz2 : z_2 = cy3 (aim (cy1 z)) := by rw [← fz1]; exact ez_2.trans cy_eq
    have hz2 : zOK z_2 := by rw [fz2]; exact cy3_OK (aim_OK (cy1_OK hz))
    have hZ2 : zZ z_2 := by rw [fz2]; exact cy3_Z (aim_OK (cy1_OK hz)) (aim_Z (cy1_Z hZ))
    have hg2 : ∀ k, k < 15 → g k = z_2 k := fun k hk => by rw [fz2, cy3_g hk, aim_lt (by omega) (by omega), cy1_g hk]; exact hg k hk
    have J_32 : ∀ (H : Heap) (locs : List Loc) (ls : Array Slot), va_P E.1 vwCl (wP E Bp g z_2 lo up pk) H → va_D (va_A (wP E Bp g z lo up pk) s.heap.size) (wP E Bp g z_2 lo up pk) → va_S (va_A (wP E Bp g z lo up pk) s.heap.size) s.heap H locs → lv_has ls 4 [(0, .ref (Bp 0))] → W p l e (gR wsX2_passCycle 3 68) s m ([.ref (Bp 0)] : List Value).toArray below meth c H locs 0 0 (gMQ below E s (wP E Bp g z lo up pk) (wP E Bp g (pcF z lo up pk) ((pcU z lo up pk).2.1) ((pcU z lo up pk).2.2.1) ((pcU z lo up pk).2.2.2.1)) (none) [.ref (Bp 0)]) (F0 m 47 ls []) := by
      intro H locs ls hP hD hS hl
      refine lv_iconst (v := 0) hx hb dX2_passCycle_47 (by decide) ?_
      refine lv_istore_n (lv' := [(1, .int 0), (0, .ref (Bp 0))]) hx hb dX2_passCycle_48 rfl hl (by decide) rfl (fun ls hl => ?_)
      refine lv_iconst (v := 0) hx hb dX2_passCycle_49 (by decide) ?_
      refine lv_istore_n (lv' := [(2, .int 0), (1, .int 0), (0, .ref (Bp 0))]) hx hb dX2_passCycle_50 rfl hl (by decide) rfl (fun ls hl => ?_)
      have L_51 : ∀ (n i : Nat) (z3 : Nat → Int32) (l3 : Int32) (u3 : Int32) (q3 : Int32) (x3 : Int32) (H : Heap) (locs : List Loc) (ls : Array Slot), (i + n = 20) → (zOK z3) → (zZ z3) → (∀ k, k < 15 → g k = z3 k) → (pcL n i z3 l3 u3 q3 x3 = pcL 20 0 z_2 lo up pk 0) → va_P E.1 vwCl (wP E Bp g z3 l3 u3 q3) H → va_D (va_A (wP E Bp g z lo up pk) s.heap.size) (wP E Bp g z3 l3 u3 q3) → va_S (va_A (wP E Bp g z lo up pk) s.heap.size) s.heap H locs → lv_has ls 4 [(2, .int (nI i)), (1, .int x3), (0, .ref (Bp 0))] → W p l e (gR wsX2_passCycle 3 68) s m ([.ref (Bp 0)] : List Value).toArray below meth c H locs 0 0 (gMQ below E s (wP E Bp g z lo up pk) (wP E Bp g (pcF z lo up pk) ((pcU z lo up pk).2.1) ((pcU z lo up pk).2.2.1) ((pcU z lo up pk).2.2.2.1)) (none) [.ref (Bp 0)]) (F0 m 51 ls []) := by
        intro n
        induction n with
        | zero =>
          intro i z3 l3 u3 q3 x3 H locs ls hin h3 hZ3 hg3 hfn hP hD hS hl
          have hf : (z3, l3, u3, q3, x3) = pcU z lo up pk := by unfold pcU; rw [← fz2]; exact hfn
          refine lv_iload_n hx hb dX2_passCycle_51 rfl (lv_at hl 0 rfl) ?_
          refine lv_bipush (v := 20) hx hb dX2_passCycle_52 (by decide) ?_
          refine lv_icmp_ge (tgt := 141) hx hb dX2_passCycle_54 (by decide) (fun c_54 => ?_) (fun c_54 => absurd (nI_le (a := 20) (by omega) (by omega)) c_54)
          refine lv_aload_n hx hb dX2_passCycle_141 rfl (lv_at hl 2 rfl) ?_
          refine lv_iload_n hx hb dX2_passCycle_142 rfl (lv_at hl 1 rfl) ?_
          refine lv_bipush (v := 20) hx hb dX2_passCycle_143 (by decide) ?_
          refine lv_idiv hx hb dX2_passCycle_145 (by decide) ?_
          refine va_put (D := E.1) (ci := 2) (v := .int (x3 / 20)) (ty := .int) (C := RX2) (T := TX2) (N := 17) hx hb hts hiX2 tyX2 tyX2_ok nmX2 hown hK hP hD hS 0 rfl rfl 12 (by decide) hf70 (fun _ h9 => h9) rfl (by decide +kernel) rfl rfl (Nat.le_of_ble_eq_true rfl) dX2_passCycle_146 (fun H locs hP hD hS => ?_)
          have hP : va_P E.1 vwCl (wP E Bp g (upd z3 22 (x3 / 20)) l3 u3 q3) H := hP
          have hD : va_D _ (wP E Bp g (upd z3 22 (x3 / 20)) l3 u3 q3) := hD
          refine lv_aload_n hx hb dX2_passCycle_149 rfl (lv_at hl 2 rfl) ?_
          refine lv_dup hx hb dX2_passCycle_150 rfl ?_
          refine va_get (D := E.1) (ci := 2) (v := .int (z3 24)) (C := RX2) (T := TX2) (N := 17) hx hb hts hiX2 hown hK hP 0 rfl rfl 11 (by decide) hf67 (fun _ h9 => h9) rfl dX2_passCycle_151 ?_
          refine lv_iconst (v := 1) hx hb dX2_passCycle_154 (by decide) ?_
          refine lv_iadd hx hb dX2_passCycle_155 ?_
          refine va_put (D := E.1) (ci := 2) (v := .int ((z3 24) + 1)) (ty := .int) (C := RX2) (T := TX2) (N := 17) hx hb hts hiX2 tyX2 tyX2_ok nmX2 hown hK hP hD hS 0 rfl rfl 11 (by decide) hf67 (fun _ h9 => h9) rfl (by decide +kernel) rfl rfl (Nat.le_of_ble_eq_true rfl) dX2_passCycle_156 (fun H locs hP hD hS => ?_)
          have hP : va_P E.1 vwCl (wP E Bp g (upd (upd z3 22 (x3 / 20)) 24 ((z3 24) + 1)) l3 u3 q3) H := hP
          have hD : va_D _ (wP E Bp g (upd (upd z3 22 (x3 / 20)) 24 ((z3 24) + 1)) l3 u3 q3) := hD
          exact gretv hx hb hr hlocks hP hD hS (by unfold pcF; rw [← hf]) dX2_passCycle_159
        | succ n ih =>
          intro i z3 l3 u3 q3 x3 H locs ls hin h3 hZ3 hg3 hfn hP hD hS hl
          refine lv_iload_n hx hb dX2_passCycle_51 rfl (lv_at hl 0 rfl) ?_
          refine lv_bipush (v := 20) hx hb dX2_passCycle_52 (by decide) ?_
          refine lv_icmp_ge (tgt := 141) hx hb dX2_passCycle_54 (by decide) (fun c_54 => absurd c_54 (nI_ge (b := 20) (by omega) (by omega))) (fun c_54 => ?_)
          refine lv_aload_n hx hb dX2_passCycle_57 rfl (lv_at hl 2 rfl) ?_
          refine gv0i (As := []) (rest := []) ⟨hx, hb, hml, hown, hts⟩ (c_X2_runs l E Bp g z3 l3 u3 q3) (cwV 0 hts gX2_passCycle_X2_runs rfl rfl rfl (by decide +kernel) ⟨Nat.le_of_ble_eq_true rfl, Nat.le_of_ble_eq_true rfl⟩) (va_recv hK hP (ci := 2) (q0 := 0) rfl rfl) hP hK hD hN hS hA rfl hl.1 rfl (Nat.le_of_ble_eq_true rfl) dX2_passCycle_58 ⟨Nat.le_refl _, Nat.le_refl _⟩ (fun H locs hP hD hS => ?_)
          obtain ⟨z_3, ez_3⟩ : ∃ y : Nat → Int32, y = (if (runsI z3) = 0 then z3 else slotA (nI i) (z3 22) (mOf z3) 0 z3) := ⟨_, rfl⟩
          have fza : z_3 = pcA i z3 := ez_3
          have hza : zOK z_3 := by rw [fza]; exact pcA_OK h3
          have hZa : zZ z_3 := by rw [fza]; exact pcA_Z h3 hZ3
          have hga : ∀ k, k < 15 → g k = z_3 k := fun k hk => by rw [fza, pcA_lt (by omega) (by omega)]; exact hg3 k hk
          have hzb : zOK (mvF z_3 q3).1 := mvF_OK hza
          have hZb : zZ (mvF z_3 q3).1 := mvF_Z hZa
          have hgb : ∀ k, k < 15 → g k = (mvF z_3 q3).1 k := fun k hk => (hga k hk).trans (mvF_lt (by omega) (by omega)).symm
          have J_61 : ∀ (H : Heap) (locs : List Loc) (ls : Array Slot), va_P E.1 vwCl (wP E Bp g z_3 l3 u3 q3) H → va_D (va_A (wP E Bp g z lo up pk) s.heap.size) (wP E Bp g z_3 l3 u3 q3) → va_S (va_A (wP E Bp g z lo up pk) s.heap.size) s.heap H locs → lv_has ls 4 [(2, .int (nI i)), (1, .int x3), (0, .ref (Bp 0))] → W p l e (gR wsX2_passCycle 3 68) s m ([.ref (Bp 0)] : List Value).toArray below meth c H locs 0 0 (gMQ below E s (wP E Bp g z lo up pk) (wP E Bp g (pcF z lo up pk) ((pcU z lo up pk).2.1) ((pcU z lo up pk).2.2.1) ((pcU z lo up pk).2.2.2.1)) (none) [.ref (Bp 0)]) (F0 m 69 ls []) := by
            intro H locs ls hP hD hS hl
            refine lv_aload_n hx hb dX2_passCycle_69 rfl (lv_at hl 2 rfl) ?_
            refine gv0i (As := []) (rest := []) ⟨hx, hb, hml, hown, hts⟩ (c_X2_moveCurrents l E Bp g z_3 l3 u3 q3 hga hza) (cwV 0 hts gX2_passCycle_X2_moveCurrents rfl rfl rfl (by decide +kernel) ⟨Nat.le_of_ble_eq_true rfl, Nat.le_of_ble_eq_true rfl⟩) (va_recv hK hP (ci := 2) (q0 := 0) rfl rfl) hP hK hD hN hS hA rfl hl.1 rfl (Nat.le_of_ble_eq_true rfl) dX2_passCycle_70 ⟨Nat.le_refl _, Nat.le_refl _⟩ (fun H locs hP hD hS => ?_)
            have hP : va_P E.1 vwCl (wP E Bp g ((mvF z_3 q3).1) l3 u3 ((mvF z_3 q3).2.1)) H := hP
            have hD : va_D _ (wP E Bp g ((mvF z_3 q3).1) l3 u3 ((mvF z_3 q3).2.1)) := hD
            refine lv_istore_n (lv' := [(3, .int ((mvF z_3 q3).2.2)), (2, .int (nI i)), (1, .int x3), (0, .ref (Bp 0))]) hx hb dX2_passCycle_73 rfl hl (by decide) rfl (fun ls hl => ?_)
            refine lv_iload_n hx hb dX2_passCycle_74 rfl (lv_at hl 2 rfl) ?_
            refine lv_iload_n hx hb dX2_passCycle_75 rfl (lv_at hl 0 rfl) ?_
            refine lv_iadd hx hb dX2_passCycle_76 ?_
            refine lv_istore_n (lv' := [(1, .int (x3 + ((mvF z_3 q3).2.2))), (3, .int ((mvF z_3 q3).2.2)), (2, .int (nI i)), (0, .ref (Bp 0))]) hx hb dX2_passCycle_77 rfl hl (by decide) rfl (fun ls hl => ?_)
            refine lv_aload_n hx hb dX2_passCycle_78 rfl (lv_at hl 3 rfl) ?_
            refine lv_iload_n hx hb dX2_passCycle_79 rfl (lv_at hl 1 rfl) ?_
            refine gv0v (As := [.int ((mvF z_3 q3).2.2)]) (rest := []) ⟨hx, hb, hml, hown, hts⟩ (c_X2_moveVoltage l E Bp g ((mvF z_3 q3).1) l3 u3 ((mvF z_3 q3).2.1) ((mvF z_3 q3).2.2) hgb hzb hZb) (cwV 1 hts gX2_passCycle_X2_moveVoltage rfl rfl rfl (by decide +kernel) ⟨Nat.le_of_ble_eq_true rfl, Nat.le_of_ble_eq_true rfl⟩) (va_recv hK hP (ci := 2) (q0 := 0) rfl rfl) hP hK hD hN hS hA rfl hl.1 rfl (Nat.le_of_ble_eq_true rfl) dX2_passCycle_80 ⟨Nat.le_refl _, Nat.le_refl _⟩ (fun H locs hP hD hS => ?_)
            have hP : va_P E.1 vwCl (wP E Bp g (slotD (mvV ((mvF z_3 q3).2.2) ((mvF z_3 q3).1))) l3 u3 ((mvF z_3 q3).2.1)) H := hP
            have hD : va_D _ (wP E Bp g (slotD (mvV ((mvF z_3 q3).2.2) ((mvF z_3 q3).1))) l3 u3 ((mvF z_3 q3).2.1)) := hD
            refine lv_aload_n hx hb dX2_passCycle_83 rfl (lv_at hl 3 rfl) ?_
            refine lv_iload_n hx hb dX2_passCycle_84 rfl (lv_at hl 2 rfl) ?_
            obtain ⟨x_4, ex_4⟩ : ∃ y : Int32, y = (if (nI i) = 0 then (slotD (mvV ((mvF z_3 q3).2.2) ((mvF z_3 q3).1))) 17 else (if ((slotD (mvV ((mvF z_3 q3).2.2) ((mvF z_3 q3).1))) 17) < l3 then ((slotD (mvV ((mvF z_3 q3).2.2) ((mvF z_3 q3).1))) 17) else l3)) := ⟨_, rfl⟩
            have fl : x_4 = pcLo i (pcD i z3 q3 17) l3 := by unfold pcD; rw [← fza]; exact ex_4
            have J_85 : ∀ (H : Heap) (locs : List Loc) (ls : Array Slot), va_P E.1 vwCl (wP E Bp g (slotD (mvV ((mvF z_3 q3).2.2) ((mvF z_3 q3).1))) l3 u3 ((mvF z_3 q3).2.1)) H → va_D (va_A (wP E Bp g z lo up pk) s.heap.size) (wP E Bp g (slotD (mvV ((mvF z_3 q3).2.2) ((mvF z_3 q3).1))) l3 u3 ((mvF z_3 q3).2.1)) → va_S (va_A (wP E Bp g z lo up pk) s.heap.size) s.heap H locs → lv_has ls 4 [(1, .int (x3 + ((mvF z_3 q3).2.2))), (3, .int ((mvF z_3 q3).2.2)), (2, .int (nI i)), (0, .ref (Bp 0))] → W p l e (gR wsX2_passCycle 3 68) s m ([.ref (Bp 0)] : List Value).toArray below meth c H locs 0 0 (gMQ below E s (wP E Bp g z lo up pk) (wP E Bp g (pcF z lo up pk) ((pcU z lo up pk).2.1) ((pcU z lo up pk).2.2.1) ((pcU z lo up pk).2.2.2.1)) (none) [.ref (Bp 0)]) (F0 m 106 ls [.int x_4, .ref (Bp 0)]) := by
              intro H locs ls hP hD hS hl
              refine va_put (D := E.1) (ci := 2) (v := .int x_4) (ty := .int) (C := RX2) (T := TX2) (N := 17) hx hb hts hiX2 tyX2 tyX2_ok nmX2 hown hK hP hD hS 0 rfl rfl 13 (by decide) hf73 (fun _ h9 => h9) rfl (by decide +kernel) rfl rfl (Nat.le_of_ble_eq_true rfl) dX2_passCycle_106 (fun H locs hP hD hS => ?_)
              have hP : va_P E.1 vwCl (wP E Bp g (slotD (mvV ((mvF z_3 q3).2.2) ((mvF z_3 q3).1))) x_4 u3 ((mvF z_3 q3).2.1)) H := hP
              have hD : va_D _ (wP E Bp g (slotD (mvV ((mvF z_3 q3).2.2) ((mvF z_3 q3).1))) x_4 u3 ((mvF z_3 q3).2.1)) := hD
              refine lv_aload_n hx hb dX2_passCycle_109 rfl (lv_at hl 3 rfl) ?_
              refine lv_iload_n hx hb dX2_passCycle_110 rfl (lv_at hl 2 rfl) ?_
              obtain ⟨x_5, ex_5⟩ : ∃ y : Int32, y = (if (nI i) = 0 then (slotD (mvV ((mvF z_3 q3).2.2) ((mvF z_3 q3).1))) 17 else (if u3 < ((slotD (mvV ((mvF z_3 q3).2.2) ((mvF z_3 q3).1))) 17) then ((slotD (mvV ((mvF z_3 q3).2.2) ((mvF z_3 q3).1))) 17) else u3)) := ⟨_, rfl⟩
              have fu : x_5 = pcHi i (pcD i z3 q3 17) u3 := by unfold pcD; rw [← fza]; exact ex_5
              have J_111 : ∀ (H : Heap) (locs : List Loc) (ls : Array Slot), va_P E.1 vwCl (wP E Bp g (slotD (mvV ((mvF z_3 q3).2.2) ((mvF z_3 q3).1))) x_4 u3 ((mvF z_3 q3).2.1)) H → va_D (va_A (wP E Bp g z lo up pk) s.heap.size) (wP E Bp g (slotD (mvV ((mvF z_3 q3).2.2) ((mvF z_3 q3).1))) x_4 u3 ((mvF z_3 q3).2.1)) → va_S (va_A (wP E Bp g z lo up pk) s.heap.size) s.heap H locs → lv_has ls 4 [(1, .int (x3 + ((mvF z_3 q3).2.2))), (3, .int ((mvF z_3 q3).2.2)), (2, .int (nI i)), (0, .ref (Bp 0))] → W p l e (gR wsX2_passCycle 3 68) s m ([.ref (Bp 0)] : List Value).toArray below meth c H locs 0 0 (gMQ below E s (wP E Bp g z lo up pk) (wP E Bp g (pcF z lo up pk) ((pcU z lo up pk).2.1) ((pcU z lo up pk).2.2.1) ((pcU z lo up pk).2.2.2.1)) (none) [.ref (Bp 0)]) (F0 m 132 ls [.int x_5, .ref (Bp 0)]) := by
                intro H locs ls hP hD hS hl
                refine va_put (D := E.1) (ci := 2) (v := .int x_5) (ty := .int) (C := RX2) (T := TX2) (N := 17) hx hb hts hiX2 tyX2 tyX2_ok nmX2 hown hK hP hD hS 0 rfl rfl 14 (by decide) hf76 (fun _ h9 => h9) rfl (by decide +kernel) rfl rfl (Nat.le_of_ble_eq_true rfl) dX2_passCycle_132 (fun H locs hP hD hS => ?_)
                have hP : va_P E.1 vwCl (wP E Bp g (slotD (mvV ((mvF z_3 q3).2.2) ((mvF z_3 q3).1))) x_4 x_5 ((mvF z_3 q3).2.1)) H := hP
                have hD : va_D _ (wP E Bp g (slotD (mvV ((mvF z_3 q3).2.2) ((mvF z_3 q3).1))) x_4 x_5 ((mvF z_3 q3).2.1)) := hD
                refine lv_iinc (v := nI (i + 1)) (lv' := [(2, .int (nI (i + 1))), (1, .int (x3 + ((mvF z_3 q3).2.2))), (3, .int ((mvF z_3 q3).2.2)), (0, .ref (Bp 0))]) hx hb dX2_passCycle_135 hl (k := 2) rfl (nI_1 _) (by decide) rfl (fun ls hl => ?_)
                refine lv_goto (tgt := 51) hx hb dX2_passCycle_138 (by decide) ?_
                exact ih (i + 1) (slotD (mvV ((mvF z_3 q3).2.2) ((mvF z_3 q3).1))) x_4 x_5 ((mvF z_3 q3).2.1) (x3 + ((mvF z_3 q3).2.2)) H locs ls (by omega) (by rw [fza]; exact pcD_OK h3) (by rw [fza]; exact pcD_Z h3 hZ3) (fun k hk => (hg3 k hk).trans (by rw [fza]; exact (pcD_g hk).symm)) (by rw [fl, fu, fza]; exact hfn) hP hD hS (lv_sub hl [0, 1, 3] rfl)
              refine lv_if_ne (tgt := 121) hx hb dX2_passCycle_111 (by decide) (fun c_111 => ?_) (fun c_111 => ?_)
              · refine lv_aload_n hx hb dX2_passCycle_121 rfl (lv_at hl 3 rfl) ?_
                refine va_get (D := E.1) (ci := 2) (v := .int u3) (C := RX2) (T := TX2) (N := 17) hx hb hts hiX2 hown hK hP 0 rfl rfl 14 (by decide) hf76 (fun _ h9 => h9) rfl dX2_passCycle_122 ?_
                refine lv_aload_n hx hb dX2_passCycle_125 rfl (lv_at hl 3 rfl) ?_
                refine va_get (D := E.1) (ci := 2) (v := .int ((slotD (mvV ((mvF z_3 q3).2.2) ((mvF z_3 q3).1))) 17)) (C := RX2) (T := TX2) (N := 17) hx hb hts hiX2 hown hK hP 0 rfl rfl 5 (by decide) hf49 (fun _ h9 => h9) rfl dX2_passCycle_126 ?_
                refine va_mmax hx hb (by rw [hml]; exact hl.1.symm) hown (hts (.methodLink RX2 128 Lib.Math.max.name) (List.mem_of_getElem? (i := 9) rfl)) (hts (.static Lib.Math.max.name) (List.mem_of_getElem? (i := 10) rfl)) (hts (.initialized "java/lang/Math") (List.mem_of_getElem? (i := 6) rfl)) (hts (.code Lib.Math.max.name Lib.Math.max.code 2 (some .int)) (List.mem_of_getElem? (i := 11) rfl)) (Nat.le_of_ble_eq_true rfl) (Nat.le_of_ble_eq_true rfl) (Nat.le_of_ble_eq_true rfl) (Nat.le_of_ble_eq_true rfl) dX2_passCycle_129 ?_
                refine W.eq (g2 := F0 m 132 ls [.int x_5, .ref (Bp 0)]) (by rw [ex_5]; simp only [if_neg c_111]) ?_
                exact J_111 H locs ls (hP) (hD) hS (lv_sub hl [0, 1, 2, 3] rfl)
              · refine lv_aload_n hx hb dX2_passCycle_114 rfl (lv_at hl 3 rfl) ?_
                refine va_get (D := E.1) (ci := 2) (v := .int ((slotD (mvV ((mvF z_3 q3).2.2) ((mvF z_3 q3).1))) 17)) (C := RX2) (T := TX2) (N := 17) hx hb hts hiX2 hown hK hP 0 rfl rfl 5 (by decide) hf49 (fun _ h9 => h9) rfl dX2_passCycle_115 ?_
                refine lv_goto (tgt := 132) hx hb dX2_passCycle_118 (by decide) ?_
                refine W.eq (g2 := F0 m 132 ls [.int x_5, .ref (Bp 0)]) (by rw [ex_5]; simp only [if_pos c_111]) ?_
                exact J_111 H locs ls (hP) (hD) hS (lv_sub hl [0, 1, 2, 3] rfl)
            refine lv_if_ne (tgt := 95) hx hb dX2_passCycle_85 (by decide) (fun c_85 => ?_) (fun c_85 => ?_)
            · refine lv_aload_n hx hb dX2_passCycle_95 rfl (lv_at hl 3 rfl) ?_
              refine va_get (D := E.1) (ci := 2) (v := .int l3) (C := RX2) (T := TX2) (N := 17) hx hb hts hiX2 hown hK hP 0 rfl rfl 13 (by decide) hf73 (fun _ h9 => h9) rfl dX2_passCycle_96 ?_
              refine lv_aload_n hx hb dX2_passCycle_99 rfl (lv_at hl 3 rfl) ?_
              refine va_get (D := E.1) (ci := 2) (v := .int ((slotD (mvV ((mvF z_3 q3).2.2) ((mvF z_3 q3).1))) 17)) (C := RX2) (T := TX2) (N := 17) hx hb hts hiX2 hown hK hP 0 rfl rfl 5 (by decide) hf49 (fun _ h9 => h9) rfl dX2_passCycle_100 ?_
              refine va_mmin hx hb (by rw [hml]; exact hl.1.symm) hown (hts (.methodLink RX2 122 Lib.Math.min.name) (List.mem_of_getElem? (i := 4) rfl)) (hts (.static Lib.Math.min.name) (List.mem_of_getElem? (i := 5) rfl)) (hts (.initialized "java/lang/Math") (List.mem_of_getElem? (i := 6) rfl)) (hts (.code Lib.Math.min.name Lib.Math.min.code 2 (some .int)) (List.mem_of_getElem? (i := 7) rfl)) (Nat.le_of_ble_eq_true rfl) (Nat.le_of_ble_eq_true rfl) (Nat.le_of_ble_eq_true rfl) (Nat.le_of_ble_eq_true rfl) dX2_passCycle_103 ?_
              refine W.eq (g2 := F0 m 106 ls [.int x_4, .ref (Bp 0)]) (by rw [ex_4]; simp only [if_neg c_85]) ?_
              exact J_85 H locs ls (hP) (hD) hS (lv_sub hl [0, 1, 2, 3] rfl)
            · refine lv_aload_n hx hb dX2_passCycle_88 rfl (lv_at hl 3 rfl) ?_
              refine va_get (D := E.1) (ci := 2) (v := .int ((slotD (mvV ((mvF z_3 q3).2.2) ((mvF z_3 q3).1))) 17)) (C := RX2) (T := TX2) (N := 17) hx hb hts hiX2 hown hK hP 0 rfl rfl 5 (by decide) hf49 (fun _ h9 => h9) rfl dX2_passCycle_89 ?_
              refine lv_goto (tgt := 106) hx hb dX2_passCycle_92 (by decide) ?_
              refine W.eq (g2 := F0 m 106 ls [.int x_4, .ref (Bp 0)]) (by rw [ex_4]; simp only [if_pos c_85]) ?_
              exact J_85 H locs ls (hP) (hD) hS (lv_sub hl [0, 1, 2, 3] rfl)
          refine lv_if_eq (tgt := 69) hx hb dX2_passCycle_61 (by decide) (fun c_61 => ?_) (fun c_61 => ?_)
          · exact J_61 H locs ls (by rw [ez_3]; simp only [if_pos c_61]; exact hP) (by rw [ez_3]; simp only [if_pos c_61]; exact hD) hS (lv_sub hl [0, 1, 2] rfl)
          · refine lv_aload_n hx hb dX2_passCycle_64 rfl (lv_at hl 2 rfl) ?_
            refine lv_iload_n hx hb dX2_passCycle_65 rfl (lv_at hl 0 rfl) ?_
            refine gv0v (As := [.int (nI i)]) (rest := []) ⟨hx, hb, hml, hown, hts⟩ (c_X2_beginPulses l E Bp g z3 l3 u3 q3 (nI i) hg3 h3 c_61) (cwV 1 hts gX2_passCycle_X2_beginPulses rfl rfl rfl (by decide +kernel) ⟨Nat.le_of_ble_eq_true rfl, Nat.le_of_ble_eq_true rfl⟩) (va_recv hK hP (ci := 2) (q0 := 0) rfl rfl) hP hK hD hN hS hA rfl hl.1 rfl (Nat.le_of_ble_eq_true rfl) dX2_passCycle_66 ⟨Nat.le_refl _, Nat.le_refl _⟩ (fun H locs hP hD hS => ?_)
            have hP : va_P E.1 vwCl (wP E Bp g (slotA (nI i) (z3 22) (mOf z3) 0 z3) l3 u3 q3) H := hP
            have hD : va_D _ (wP E Bp g (slotA (nI i) (z3 22) (mOf z3) 0 z3) l3 u3 q3) := hD
            exact J_61 H locs ls (by rw [ez_3]; simp only [if_neg c_61]; exact hP) (by rw [ez_3]; simp only [if_neg c_61]; exact hD) hS (lv_sub hl [0, 1, 2] rfl)
      exact L_51 (20) (0) z_2 lo up pk 0 H locs ls (by omega) (hz2) (hZ2) (hg2) rfl hP hD hS (lv_sub hl [0, 1, 2] rfl)
    refine lv_if_eq (tgt := 47) hx hb dX2_passCycle_32 (by decide) (fun c_32 => ?_) (fun c_32 => ?_)
    · exact J_32 H locs ls (by rw [ez_2]; simp only [if_pos c_32]; exact hP) (by rw [ez_2]; simp only [if_pos c_32]; exact hD) hS (lv_sub hl [0] rfl)
    · refine lv_aload_n hx hb dX2_passCycle_35 rfl (lv_at hl 0 rfl) ?_
      refine gv0v (As := []) (rest := []) ⟨hx, hb, hml, hown, hts⟩ (c_X2_moveTarget l E Bp g z_1 lo up pk hg1 c_32) (cwV 0 hts gX2_passCycle_X2_moveTarget rfl rfl rfl (by decide +kernel) ⟨Nat.le_of_ble_eq_true rfl, Nat.le_of_ble_eq_true rfl⟩) (va_recv hK hP (ci := 2) (q0 := 0) rfl rfl) hP hK hD hN hS hA rfl hl.1 rfl (Nat.le_of_ble_eq_true rfl) dX2_passCycle_36 ⟨Nat.le_refl _, Nat.le_refl _⟩ (fun H locs hP hD hS => ?_)
      have hP : va_P E.1 vwCl (wP E Bp g (aim z_1) lo up pk) H := hP
      have hD : va_D _ (wP E Bp g (aim z_1) lo up pk) := hD
      refine lv_aload_n hx hb dX2_passCycle_39 rfl (lv_at hl 0 rfl) ?_
      refine gv0v (As := []) (rest := []) ⟨hx, hb, hml, hown, hts⟩ (c_X2_regulate l E Bp g (aim z_1) lo up pk (fun k hk => (hg1 k hk).trans (aim_lt (by omega) (by omega)).symm) ((aim_OK hz1).2.2.2.2.2.2.1)) (cwV 0 hts gX2_passCycle_X2_regulate rfl rfl rfl (by decide +kernel) ⟨Nat.le_of_ble_eq_true rfl, Nat.le_of_ble_eq_true rfl⟩) (va_recv hK hP (ci := 2) (q0 := 0) rfl rfl) hP hK hD hN hS hA rfl hl.1 rfl (Nat.le_of_ble_eq_true rfl) dX2_passCycle_40 ⟨Nat.le_refl _, Nat.le_refl _⟩ (fun H locs hP hD hS => ?_)
      have hP : va_P E.1 vwCl (wP E Bp g (regulate (aim z_1)) lo up pk) H := hP
      have hD : va_D _ (wP E Bp g (regulate (aim z_1)) lo up pk) := hD
      refine lv_aload_n hx hb dX2_passCycle_43 rfl (lv_at hl 0 rfl) ?_
      refine gv0v (As := []) (rest := []) ⟨hx, hb, hml, hown, hts⟩ (c_X2_adaptPhases l E Bp g (regulate (aim z_1)) lo up pk (fun k hk => (hg1 k hk).trans ((aim_lt (by omega) (by omega)).symm.trans (regulate_lt (by omega) (by omega)).symm)) (regulate_OK (aim_OK hz1))) (cwV 0 hts gX2_passCycle_X2_adaptPhases rfl rfl rfl (by decide +kernel) ⟨Nat.le_of_ble_eq_true rfl, Nat.le_of_ble_eq_true rfl⟩) (va_recv hK hP (ci := 2) (q0 := 0) rfl rfl) hP hK hD hN hS hA rfl hl.1 rfl (Nat.le_of_ble_eq_true rfl) dX2_passCycle_44 ⟨Nat.le_refl _, Nat.le_refl _⟩ (fun H locs hP hD hS => ?_)
      have hP : va_P E.1 vwCl (wP E Bp g (choose (regulate (aim z_1))) lo up pk) H := hP
      have hD : va_D _ (wP E Bp g (choose (regulate (aim z_1))) lo up pk) := hD
      exact J_32 H locs ls (by rw [ez_2]; simp only [if_neg c_32]; exact hP) (by rw [ez_2]; simp only [if_neg c_32]; exact hD) hS (lv_sub hl [0] rfl)
  refine lv_if_eq (tgt := 28) hx hb dX2_passCycle_4 (by decide) (fun c_4 => ?_) (fun c_4 => ?_)
  · exact J_4 H locs ls (by rw [ez_1]; simp only [if_pos c_4]; exact hP) (by rw [ez_1]; simp only [if_pos c_4]; exact hD) hS (lv_sub hl [0] rfl)
  · refine lv_aload_n hx hb dX2_passCycle_7 rfl (lv_at hl 0 rfl) ?_
    refine va_get (D := E.1) (ci := 2) (v := .ref (Bp 1)) (C := RX2) (T := TX2) (N := 17) hx hb hts hiX2 hown hK hP 0 rfl rfl 0 (by decide) hf18 (fun _ h9 => h9) rfl dX2_passCycle_8 ?_
    refine lv_iconst (v := 0) hx hb dX2_passCycle_11 (by decide) ?_
    refine gald (x := z 0) hx hb hK hP 1 rfl 0 (rfl) (by decide) (by decide) (hg 0 (by omega)) dX2_passCycle_12 ?_
    refine lv_aload_n hx hb dX2_passCycle_13 rfl (lv_at hl 0 rfl) ?_
    refine va_get (D := E.1) (ci := 2) (v := .ref (Bp 1)) (C := RX2) (T := TX2) (N := 17) hx hb hts hiX2 hown hK hP 0 rfl rfl 0 (by decide) hf18 (fun _ h9 => h9) rfl dX2_passCycle_14 ?_
    refine lv_bipush (v := 13) hx hb dX2_passCycle_17 (by decide) ?_
    refine gald (x := z 13) hx hb hK hP 1 rfl 13 (rfl) (by decide) (by decide) (hg 13 (by omega)) dX2_passCycle_19 ?_
    refine lv_icmp_ge (tgt := 28) hx hb dX2_passCycle_20 (by decide) (fun c_20 => ?_) (fun c_20 => ?_)
    · exact J_4 H locs ls (by rw [ez_1]; simp only [if_neg c_4, if_pos c_20]; exact hP) (by rw [ez_1]; simp only [if_neg c_4, if_pos c_20]; exact hD) hS (lv_sub hl [0] rfl)
    · refine lv_aload_n hx hb dX2_passCycle_23 rfl (lv_at hl 0 rfl) ?_
      refine lv_iconst (v := 4) hx hb dX2_passCycle_24 (by decide) ?_
      refine gv0v (As := [.int 4]) (rest := []) ⟨hx, hb, hml, hown, hts⟩ (c_X2_halt l E Bp g z lo up pk 4 hz hZ) (cwV 1 hts gX2_passCycle_X2_halt rfl rfl rfl (by decide +kernel) ⟨Nat.le_of_ble_eq_true rfl, Nat.le_of_ble_eq_true rfl⟩) (va_recv hK hP (ci := 2) (q0 := 0) rfl rfl) hP hK hD hN hS hA rfl hl.1 rfl (Nat.le_of_ble_eq_true rfl) dX2_passCycle_25 ⟨Nat.le_refl _, Nat.le_refl _⟩ (fun H locs hP hD hS => ?_)
      have hP : va_P E.1 vwCl (wP E Bp g (stopTo 4 z) lo up pk) H := hP
      have hD : va_D _ (wP E Bp g (stopTo 4 z) lo up pk) := hD
      exact J_4 H locs ls (by rw [ez_1]; simp only [if_neg c_4, if_neg c_20]; exact hP) (by rw [ez_1]; simp only [if_neg c_4, if_neg c_20]; exact hD) hS (lv_sub hl [0] rfl)

set_option maxHeartbeats 4000000 in
set_option maxRecDepth 100000 in
theorem c_X2_number (l : Launch) (E : EE) (Bp : Nat → Nat) (g z : Nat → Int32) (lo up pk : Int32) (k0 : Nat) (hz : zOK z) (hk : k0 < 14) : GM l yX2_number wsX2_number 1 22 E (wP E Bp g z lo up pk) [.ref (Bp 0), .int (nI k0)] (wP E Bp g z lo up pk) (some (.int (nuT k0 z lo up pk))) := by
  intro sz
  refine Met.ofW (cc := cX2_number) (maxL := 2) (ret := (some .int)) (by decide) rfl ?_
  intro p e s m args below meth c s₁ B hml hv
  obtain ⟨rfl, rfl, hP, hK, hD0, hN⟩ := hv
  have hx := B.exec
  have hb := B.bytes
  have hr := B.returns
  have hts := atoms_spec (ws := wsX2_number) B.pre
  have hown : s.vm.findClass RX2 = some m.cls := findClass_of_methodNamed B.named
  have hlocks := B.notSynchronized
  have hD := hD0.self (sz := s.heap.size)
  have hA : ∀ q : Nat, s.heap.size ≤ q → va_A (wP E Bp g z lo up pk) s.heap.size q := fun q h => Or.inr h
  have hS : va_S (va_A (wP E Bp g z lo up pk) s.heap.size) s.heap s.heap [] := va_S.rf
  have hl := lv_entry ([.ref (Bp 0), .int (nI k0)]) (n := 2) (Nat.le_of_ble_eq_true rfl)
  rw [lg_entry_eq]
  generalize (lg_sl ([.ref (Bp 0), .int (nI k0)]) ++ List.replicate (2 - (lg_sl ([.ref (Bp 0), .int (nI k0)])).length) Slot.unset).toArray = ls at hl ⊢
  have hl : lv_has ls 2 [(0, .ref (Bp 0)), (1, .int (nI k0))] := hl
  have hf30 := hts (.fieldLink RX2 30 "PhaseConverter$Plant" "phaseCount" "I") (List.mem_of_getElem? (i := 11) rfl)
  have hf34 := hts (.fieldLink RX2 34 "PhaseConverter$Plant" "active" "I") (List.mem_of_getElem? (i := 4) rfl)
  have hf46 := hts (.fieldLink RX2 46 "PhaseConverter$Plant" "mode" "I") (List.mem_of_getElem? (i := 1) rfl)
  have hf49 := hts (.fieldLink RX2 49 "PhaseConverter$Plant" "voltage" "I") (List.mem_of_getElem? (i := 2) rfl)
  have hf52 := hts (.fieldLink RX2 52 "PhaseConverter$Plant" "presentTarget" "I") (List.mem_of_getElem? (i := 3) rfl)
  have hf55 := hts (.fieldLink RX2 55 "PhaseConverter$Plant" "integral" "I") (List.mem_of_getElem? (i := 7) rfl)
  have hf58 := hts (.fieldLink RX2 58 "PhaseConverter$Plant" "duty" "I") (List.mem_of_getElem? (i := 8) rfl)
  have hf67 := hts (.fieldLink RX2 67 "PhaseConverter$Plant" "cycles" "I") (List.mem_of_getElem? (i := 5) rfl)
  have hf70 := hts (.fieldLink RX2 70 "PhaseConverter$Plant" "meanCurrent" "I") (List.mem_of_getElem? (i := 6) rfl)
  have hf79 := hts (.fieldLink RX2 79 "PhaseConverter$Plant" "peakCurrent" "I") (List.mem_of_getElem? (i := 9) rfl)
  have hf82 := hts (.fieldLink RX2 82 "PhaseConverter$Plant" "changes" "I") (List.mem_of_getElem? (i := 10) rfl)
  have hiX2 : ∀ w ∈ u_ws RX2 TX2 17, w ∈ wsX2_number := memIn [30, 31, 32, 33, 34, 35, 36, 37, 38, 39, 40, 41, 42, 43, 44, 45, 46] rfl
  refine lv_iload_n hx hb dX2_number_0 rfl (lv_at hl 1 rfl) ?_
  obtain rfl | rfl | rfl | rfl | rfl | rfl | rfl | rfl | rfl | rfl | rfl | rfl | rfl | rfl : k0 = 0 ∨ k0 = 1 ∨ k0 = 2 ∨ k0 = 3 ∨ k0 = 4 ∨ k0 = 5 ∨ k0 = 6 ∨ k0 = 7 ∨ k0 = 8 ∨ k0 = 9 ∨ k0 = 10 ∨ k0 = 11 ∨ k0 = 12 ∨ k0 = 13 := by omega
  · refine lv_tableIn (off := 67) (tgt := 68) hx hb dX2_number_1 (by decide) (by decide) (by decide) (by decide) ?_
    refine lv_aload_n hx hb dX2_number_68 rfl (lv_at hl 0 rfl) ?_
    refine va_get (D := E.1) (ci := 2) (v := .int (z 20)) (C := RX2) (T := TX2) (N := 17) hx hb hts hiX2 hown hK hP 0 rfl rfl 4 (by decide) hf46 (fun _ h9 => h9) rfl dX2_number_69 ?_
    exact greti hx hb hr hlocks hP hD hS (rfl) (rfl) dX2_number_72
  · refine lv_tableIn (off := 72) (tgt := 73) hx hb dX2_number_1 (by decide) (by decide) (by decide) (by decide) ?_
    refine lv_aload_n hx hb dX2_number_73 rfl (lv_at hl 0 rfl) ?_
    refine va_get (D := E.1) (ci := 2) (v := .int (z 17)) (C := RX2) (T := TX2) (N := 17) hx hb hts hiX2 hown hK hP 0 rfl rfl 5 (by decide) hf49 (fun _ h9 => h9) rfl dX2_number_74 ?_
    exact greti hx hb hr hlocks hP hD hS (rfl) (rfl) dX2_number_77
  · refine lv_tableIn (off := 77) (tgt := 78) hx hb dX2_number_1 (by decide) (by decide) (by decide) (by decide) ?_
    refine lv_aload_n hx hb dX2_number_78 rfl (lv_at hl 0 rfl) ?_
    refine va_get (D := E.1) (ci := 2) (v := .int (z 18)) (C := RX2) (T := TX2) (N := 17) hx hb hts hiX2 hown hK hP 0 rfl rfl 6 (by decide) hf52 (fun _ h9 => h9) rfl dX2_number_79 ?_
    exact greti hx hb hr hlocks hP hD hS (rfl) (rfl) dX2_number_82
  · refine lv_tableIn (off := 82) (tgt := 83) hx hb dX2_number_1 (by decide) (by decide) (by decide) (by decide) ?_
    refine lv_aload_n hx hb dX2_number_83 rfl (lv_at hl 0 rfl) ?_
    refine va_get (D := E.1) (ci := 2) (v := .int (z 16)) (C := RX2) (T := TX2) (N := 17) hx hb hts hiX2 hown hK hP 0 rfl rfl 3 (by decide) hf34 (fun _ h9 => h9) rfl dX2_number_84 ?_
    exact greti hx hb hr hlocks hP hD hS (rfl) (rfl) dX2_number_87
  · refine lv_tableIn (off := 87) (tgt := 88) hx hb dX2_number_1 (by decide) (by decide) (by decide) (by decide) ?_
    refine lv_aload_n hx hb dX2_number_88 rfl (lv_at hl 0 rfl) ?_
    refine va_get (D := E.1) (ci := 2) (v := .int (z 24)) (C := RX2) (T := TX2) (N := 17) hx hb hts hiX2 hown hK hP 0 rfl rfl 11 (by decide) hf67 (fun _ h9 => h9) rfl dX2_number_89 ?_
    exact greti hx hb hr hlocks hP hD hS (rfl) (rfl) dX2_number_92
  · refine lv_tableIn (off := 92) (tgt := 93) hx hb dX2_number_1 (by decide) (by decide) (by decide) (by decide) ?_
    refine lv_aload_n hx hb dX2_number_93 rfl (lv_at hl 0 rfl) ?_
    refine va_get (D := E.1) (ci := 2) (v := .int (z 22)) (C := RX2) (T := TX2) (N := 17) hx hb hts hiX2 hown hK hP 0 rfl rfl 12 (by decide) hf70 (fun _ h9 => h9) rfl dX2_number_94 ?_
    exact greti hx hb hr hlocks hP hD hS (rfl) (rfl) dX2_number_97
  · refine lv_tableIn (off := 97) (tgt := 98) hx hb dX2_number_1 (by decide) (by decide) (by decide) (by decide) ?_
    refine lv_aload_n hx hb dX2_number_98 rfl (lv_at hl 0 rfl) ?_
    refine va_get (D := E.1) (ci := 2) (v := .int (z 19)) (C := RX2) (T := TX2) (N := 17) hx hb hts hiX2 hown hK hP 0 rfl rfl 7 (by decide) hf55 (fun _ h9 => h9) rfl dX2_number_99 ?_
    exact greti hx hb hr hlocks hP hD hS (rfl) (rfl) dX2_number_102
  · refine lv_tableIn (off := 102) (tgt := 103) hx hb dX2_number_1 (by decide) (by decide) (by decide) (by decide) ?_
    refine lv_aload_n hx hb dX2_number_103 rfl (lv_at hl 0 rfl) ?_
    refine va_get (D := E.1) (ci := 2) (v := .int (z 21)) (C := RX2) (T := TX2) (N := 17) hx hb hts hiX2 hown hK hP 0 rfl rfl 8 (by decide) hf58 (fun _ h9 => h9) rfl dX2_number_104 ?_
    exact greti hx hb hr hlocks hP hD hS (rfl) (rfl) dX2_number_107
  · refine lv_tableIn (off := 107) (tgt := 108) hx hb dX2_number_1 (by decide) (by decide) (by decide) (by decide) ?_
    refine lv_aload_n hx hb dX2_number_108 rfl (lv_at hl 0 rfl) ?_
    refine gv0i (As := []) (rest := []) ⟨hx, hb, hml, hown, hts⟩ (c_X2_ripple l E Bp g z lo up pk) (cwV 0 hts gX2_number_X2_ripple rfl rfl rfl (by decide +kernel) ⟨Nat.le_of_ble_eq_true rfl, Nat.le_of_ble_eq_true rfl⟩) (va_recv hK hP (ci := 2) (q0 := 0) rfl rfl) hP hK hD hN hS hA rfl hl.1 rfl (Nat.le_of_ble_eq_true rfl) dX2_number_109 ⟨Nat.le_refl _, Nat.le_refl _⟩ (fun H locs hP hD hS => ?_)
    exact greti hx hb hr hlocks hP hD hS (rfl) (rfl) dX2_number_112
  · refine lv_tableIn (off := 112) (tgt := 113) hx hb dX2_number_1 (by decide) (by decide) (by decide) (by decide) ?_
    refine lv_aload_n hx hb dX2_number_113 rfl (lv_at hl 0 rfl) ?_
    refine gv0i (As := []) (rest := []) ⟨hx, hb, hml, hown, hts⟩ (c_X2_limitEvents l E Bp g z lo up pk hz) (cwV 0 hts gX2_number_X2_limitEvents rfl rfl rfl (by decide +kernel) ⟨Nat.le_of_ble_eq_true rfl, Nat.le_of_ble_eq_true rfl⟩) (va_recv hK hP (ci := 2) (q0 := 0) rfl rfl) hP hK hD hN hS hA rfl hl.1 rfl (Nat.le_of_ble_eq_true rfl) dX2_number_114 ⟨Nat.le_refl _, Nat.le_refl _⟩ (fun H locs hP hD hS => ?_)
    exact greti hx hb hr hlocks hP hD hS (rfl) (rfl) dX2_number_117
  · refine lv_tableIn (off := 117) (tgt := 118) hx hb dX2_number_1 (by decide) (by decide) (by decide) (by decide) ?_
    refine lv_aload_n hx hb dX2_number_118 rfl (lv_at hl 0 rfl) ?_
    refine gv0i (As := []) (rest := []) ⟨hx, hb, hml, hown, hts⟩ (c_X2_skippedPulses l E Bp g z lo up pk hz) (cwV 0 hts gX2_number_X2_skippedPulses rfl rfl rfl (by decide +kernel) ⟨Nat.le_of_ble_eq_true rfl, Nat.le_of_ble_eq_true rfl⟩) (va_recv hK hP (ci := 2) (q0 := 0) rfl rfl) hP hK hD hN hS hA rfl hl.1 rfl (Nat.le_of_ble_eq_true rfl) dX2_number_119 ⟨Nat.le_refl _, Nat.le_refl _⟩ (fun H locs hP hD hS => ?_)
    exact greti hx hb hr hlocks hP hD hS (rfl) (rfl) dX2_number_122
  · refine lv_tableIn (off := 122) (tgt := 123) hx hb dX2_number_1 (by decide) (by decide) (by decide) (by decide) ?_
    refine lv_aload_n hx hb dX2_number_123 rfl (lv_at hl 0 rfl) ?_
    refine va_get (D := E.1) (ci := 2) (v := .int pk) (C := RX2) (T := TX2) (N := 17) hx hb hts hiX2 hown hK hP 0 rfl rfl 15 (by decide) hf79 (fun _ h9 => h9) rfl dX2_number_124 ?_
    exact greti hx hb hr hlocks hP hD hS (rfl) (rfl) dX2_number_127
  · refine lv_tableIn (off := 127) (tgt := 128) hx hb dX2_number_1 (by decide) (by decide) (by decide) (by decide) ?_
    refine lv_aload_n hx hb dX2_number_128 rfl (lv_at hl 0 rfl) ?_
    refine va_get (D := E.1) (ci := 2) (v := .int (z 28)) (C := RX2) (T := TX2) (N := 17) hx hb hts hiX2 hown hK hP 0 rfl rfl 16 (by decide) hf82 (fun _ h9 => h9) rfl dX2_number_129 ?_
    exact greti hx hb hr hlocks hP hD hS (rfl) (rfl) dX2_number_132
  · refine lv_tableOut (tgt := 133) hx hb dX2_number_1 (by decide) (by decide) ?_
    refine lv_aload_n hx hb dX2_number_133 rfl (lv_at hl 0 rfl) ?_
    refine va_get (D := E.1) (ci := 2) (v := .int (z 15)) (C := RX2) (T := TX2) (N := 17) hx hb hts hiX2 hown hK hP 0 rfl rfl 2 (by decide) hf30 (fun _ h9 => h9) rfl dX2_number_134 ?_
    exact greti hx hb hr hlocks hP hD hS (rfl) (rfl) dX2_number_137
