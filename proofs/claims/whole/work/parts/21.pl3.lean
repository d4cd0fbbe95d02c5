set_option maxHeartbeats 4000000 in
set_option maxRecDepth 100000 in
theorem c_X2_reset (l : Launch) (E : EE) (Sp : Nat → Nat) (Bp : Nat → Nat) (g z : Nat → Int32) (lo up pk : Int32) (v1 : Int32) : GX l yX2_reset wsX2_reset 1 20 E Sp (wP E Bp g z lo up pk) [.ref (Bp 0), .int v1] (wP E Bp (va_cpy firstT g 0 0 15) (rsZ v1) 0 0 0) (none) := by
  intro sz
  refine Met.ofW (cc := cX2_reset) (maxL := 3) (ret := none) (by decide) rfl ?_
  intro p e s m args below meth c s₁ B hml hv
  obtain ⟨⟨rfl, rfl, hP, hK, hD0, hN⟩, hX⟩ := hv
  have hx := B.exec
  have hb := B.bytes
  have hr := B.returns
  have hts := atoms_spec (ws := wsX2_reset) B.pre
  have hown : s.vm.findClass RX2 = some m.cls := findClass_of_methodNamed B.named
  have hlocks := B.notSynchronized
  have hD := hD0.self (sz := s.heap.size)
  have hA : ∀ q : Nat, s.heap.size ≤ q → va_A (wP E Bp g z lo up pk) s.heap.size q := fun q h => Or.inr h
  have hS : va_S (va_A (wP E Bp g z lo up pk) s.heap.size) s.heap s.heap [] := va_S.rf
  have hl := lv_entry ([.ref (Bp 0), .int v1]) (n := 3) (Nat.le_of_ble_eq_true rfl)
  rw [lg_entry_eq]
  generalize (lg_sl ([.ref (Bp 0), .int v1]) ++ List.replicate (3 - (lg_sl ([.ref (Bp 0), .int v1])).length) Slot.unset).toArray = ls at hl ⊢
  have hl : lv_has ls 3 [(0, .ref (Bp 0)), (1, .int v1)] := hl
  have hf18 := hts (.fieldLink RX2 18 "PhaseConverter$Plant" "settings" "[I") (List.mem_of_getElem? (i := 1) rfl)
  have hf25 := hts (.fieldLink RX2 25 "PhaseConverter$Plant" "phases" "[LPhaseConverter$Phase;") (List.mem_of_getElem? (i := 6) rfl)
  have hf30 := hts (.fieldLink RX2 30 "PhaseConverter$Plant" "phaseCount" "I") (List.mem_of_getElem? (i := 7) rfl)
  have hf34 := hts (.fieldLink RX2 34 "PhaseConverter$Plant" "active" "I") (List.mem_of_getElem? (i := 8) rfl)
  have hf46 := hts (.fieldLink RX2 46 "PhaseConverter$Plant" "mode" "I") (List.mem_of_getElem? (i := 9) rfl)
  have hf49 := hts (.fieldLink RX2 49 "PhaseConverter$Plant" "voltage" "I") (List.mem_of_getElem? (i := 10) rfl)
  have hf52 := hts (.fieldLink RX2 52 "PhaseConverter$Plant" "presentTarget" "I") (List.mem_of_getElem? (i := 11) rfl)
  have hf55 := hts (.fieldLink RX2 55 "PhaseConverter$Plant" "integral" "I") (List.mem_of_getElem? (i := 12) rfl)
  have hf58 := hts (.fieldLink RX2 58 "PhaseConverter$Plant" "duty" "I") (List.mem_of_getElem? (i := 13) rfl)
  have hf61 := hts (.fieldLink RX2 61 "PhaseConverter$Plant" "addingCount" "I") (List.mem_of_getElem? (i := 14) rfl)
  have hf64 := hts (.fieldLink RX2 64 "PhaseConverter$Plant" "sheddingCount" "I") (List.mem_of_getElem? (i := 15) rfl)
  have hf67 := hts (.fieldLink RX2 67 "PhaseConverter$Plant" "cycles" "I") (List.mem_of_getElem? (i := 16) rfl)
  have hf70 := hts (.fieldLink RX2 70 "PhaseConverter$Plant" "meanCurrent" "I") (List.mem_of_getElem? (i := 17) rfl)
  have hf73 := hts (.fieldLink RX2 73 "PhaseConverter$Plant" "leastVoltage" "I") (List.mem_of_getElem? (i := 18) rfl)
  have hf76 := hts (.fieldLink RX2 76 "PhaseConverter$Plant" "greatestVoltage" "I") (List.mem_of_getElem? (i := 19) rfl)
  have hf79 := hts (.fieldLink RX2 79 "PhaseConverter$Plant" "peakCurrent" "I") (List.mem_of_getElem? (i := 20) rfl)
  have hf82 := hts (.fieldLink RX2 82 "PhaseConverter$Plant" "changes" "I") (List.mem_of_getElem? (i := 21) rfl)
  have hiX2 : ∀ w ∈ u_ws RX2 TX2 17, w ∈ wsX2_reset := memIn [34, 35, 36, 37, 38, 39, 40, 41, 42, 43, 44, 45, 46, 47, 48, 49, 50] rfl
  refine va_getsN (C := RX4) hx hb hX.1.1 hS hown (va_Nw.use rfl hN.2.2.2.2.2.2) (fun _ h9 => h9) dX2_reset_0 ?_
  refine lv_iconst (v := 0) hx hb dX2_reset_3 (by decide) ?_
  refine lv_aload_n hx hb dX2_reset_4 rfl (lv_at hl 0 rfl) ?_
  refine va_get (D := E.1) (ci := 2) (v := .ref (Bp 1)) (C := RX2) (T := TX2) (N := 17) hx hb hts hiX2 hown hK hP 0 rfl rfl 0 (by decide) hf18 (fun _ h9 => h9) rfl dX2_reset_5 ?_
  refine lv_iconst (v := 0) hx hb dX2_reset_8 (by decide) ?_
  refine lv_bipush (v := 15) hx hb dX2_reset_9 (by decide) ?_
  refine va_copyx hx hb (by rw [hml]; exact hl.1.symm) hown (hts (.methodLink RX2 37 arraycopyName) (List.mem_of_getElem? (i := 2) rfl)) (hts (.native arraycopyName) (List.mem_of_getElem? (i := 3) rfl)) (hts (.static arraycopyName) (List.mem_of_getElem? (i := 4) rfl)) (hts (.initialized "java/lang/System") (List.mem_of_getElem? (i := 5) rfl)) hK hP hD hS hX.1.2.1 hX.1.2.2.1 hX.1.2.2.2 1 0 rfl rfl (by decide) (by decide) (by decide) (by decide) (by decide) (Nat.le_of_ble_eq_true rfl) (Nat.le_of_ble_eq_true rfl) dX2_reset_11 (fun H locs hP hD hS => ?_)
  have hP : va_P E.1 vwCl (wP E Bp (va_cpy firstT g 0 0 15) z lo up pk) H := hP
  have hD : va_D _ (wP E Bp (va_cpy firstT g 0 0 15) z lo up pk) := hD
  refine lv_iconst (v := 0) hx hb dX2_reset_14 (by decide) ?_
  refine lv_istore_n (lv' := [(2, .int 0), (0, .ref (Bp 0)), (1, .int v1)]) hx hb dX2_reset_15 rfl hl (by decide) rfl (fun ls hl => ?_)
  have L_16 : ∀ (n i : Nat) (z1 : Nat → Int32) (H : Heap) (locs : List Loc) (ls : Array Slot), (i + n = 4) → (rsL n i z1 = rsL 4 0 z) → va_P E.1 vwCl (wP E Bp (va_cpy firstT g 0 0 15) z1 lo up pk) H → va_D (va_A (wP E Bp g z lo up pk) s.heap.size) (wP E Bp (va_cpy firstT g 0 0 15) z1 lo up pk) → va_S (va_A (wP E Bp g z lo up pk) s.heap.size) s.heap H locs → lv_has ls 3 [(2, .int (nI i)), (0, .ref (Bp 0)), (1, .int v1)] → W p l e (gR wsX2_reset 1 20) s m ([.ref (Bp 0), .int v1] : List Value).toArray below meth c H locs 0 0 (gMQ below E s (wP E Bp g z lo up pk) (wP E Bp (va_cpy firstT g 0 0 15) (rsZ v1) 0 0 0) (none) [.ref (Bp 0), .int v1]) (F0 m 16 ls []) := by
    intro n
    induction n with
    | zero =>
      intro i z1 H locs ls hin  hfn hP hD hS hl
      have hf : z1 = rsL 4 0 z := hfn
      refine lv_iload_n hx hb dX2_reset_16 rfl (lv_at hl 0 rfl) ?_
      refine lv_aload_n hx hb dX2_reset_17 rfl (lv_at hl 1 rfl) ?_
      refine va_get (D := E.1) (ci := 2) (v := .ref (Bp 2)) (C := RX2) (T := TX2) (N := 17) hx hb hts hiX2 hown hK hP 0 rfl rfl 1 (by decide) hf25 (fun _ h9 => h9) rfl dX2_reset_18 ?_
      refine va_alen hx hb hK hP 2 1 rfl rfl (v := 4) rfl dX2_reset_21 ?_
      refine lv_icmp_ge (tgt := 40) hx hb dX2_reset_22 (by decide) (fun c_22 => ?_) (fun c_22 => absurd (nI_le (a := 4) (by omega) (by omega)) c_22)
      refine lv_aload_n hx hb dX2_reset_40 rfl (lv_at hl 1 rfl) ?_
      refine lv_iload_n hx hb dX2_reset_41 rfl (lv_at hl 2 rfl) ?_
      refine va_put (D := E.1) (ci := 2) (v := .int v1) (ty := .int) (C := RX2) (T := TX2) (N := 17) hx hb hts hiX2 tyX2 tyX2_ok nmX2 hown hK hP hD hS 0 rfl rfl 2 (by decide) hf30 (fun _ h9 => h9) rfl (by decide +kernel) rfl rfl (Nat.le_of_ble_eq_true rfl) dX2_reset_42 (fun H locs hP hD hS => ?_)
      have hP : va_P E.1 vwCl (wP E Bp (va_cpy firstT g 0 0 15) (upd z1 15 v1) lo up pk) H := hP
      have hD : va_D _ (wP E Bp (va_cpy firstT g 0 0 15) (upd z1 15 v1) lo up pk) := hD
      refine lv_aload_n hx hb dX2_reset_45 rfl (lv_at hl 1 rfl) ?_
      refine lv_iload_n hx hb dX2_reset_46 rfl (lv_at hl 2 rfl) ?_
      refine va_put (D := E.1) (ci := 2) (v := .int v1) (ty := .int) (C := RX2) (T := TX2) (N := 17) hx hb hts hiX2 tyX2 tyX2_ok nmX2 hown hK hP hD hS 0 rfl rfl 3 (by decide) hf34 (fun _ h9 => h9) rfl (by decide +kernel) rfl rfl (Nat.le_of_ble_eq_true rfl) dX2_reset_47 (fun H locs hP hD hS => ?_)
      have hP : va_P E.1 vwCl (wP E Bp (va_cpy firstT g 0 0 15) (upd (upd z1 15 v1) 16 v1) lo up pk) H := hP
      have hD : va_D _ (wP E Bp (va_cpy firstT g 0 0 15) (upd (upd z1 15 v1) 16 v1) lo up pk) := hD
      refine lv_aload_n hx hb dX2_reset_50 rfl (lv_at hl 1 rfl) ?_
      refine lv_iconst (v := 0) hx hb dX2_reset_51 (by decide) ?_
      refine va_put (D := E.1) (ci := 2) (v := .int 0) (ty := .int) (C := RX2) (T := TX2) (N := 17) hx hb hts hiX2 tyX2 tyX2_ok nmX2 hown hK hP hD hS 0 rfl rfl 4 (by decide) hf46 (fun _ h9 => h9) rfl (by decide +kernel) rfl rfl (Nat.le_of_ble_eq_true rfl) dX2_reset_52 (fun H locs hP hD hS => ?_)
      have hP : va_P E.1 vwCl (wP E Bp (va_cpy firstT g 0 0 15) (upd (upd (upd z1 15 v1) 16 v1) 20 0) lo up pk) H := hP
      have hD : va_D _ (wP E Bp (va_cpy firstT g 0 0 15) (upd (upd (upd z1 15 v1) 16 v1) 20 0) lo up pk) := hD
      refine lv_aload_n hx hb dX2_reset_55 rfl (lv_at hl 1 rfl) ?_
      refine lv_iconst (v := 0) hx hb dX2_reset_56 (by decide) ?_
      refine va_put (D := E.1) (ci := 2) (v := .int 0) (ty := .int) (C := RX2) (T := TX2) (N := 17) hx hb hts hiX2 tyX2 tyX2_ok nmX2 hown hK hP hD hS 0 rfl rfl 5 (by decide) hf49 (fun _ h9 => h9) rfl (by decide +kernel) rfl rfl (Nat.le_of_ble_eq_true rfl) dX2_reset_57 (fun H locs hP hD hS => ?_)
      have hP : va_P E.1 vwCl (wP E Bp (va_cpy firstT g 0 0 15) (upd (upd (upd (upd z1 15 v1) 16 v1) 20 0) 17 0) lo up pk) H := hP
      have hD : va_D _ (wP E Bp (va_cpy firstT g 0 0 15) (upd (upd (upd (upd z1 15 v1) 16 v1) 20 0) 17 0) lo up pk) := hD
      refine lv_aload_n hx hb dX2_reset_60 rfl (lv_at hl 1 rfl) ?_
      refine lv_iconst (v := 0) hx hb dX2_reset_61 (by decide) ?_
      refine va_put (D := E.1) (ci := 2) (v := .int 0) (ty := .int) (C := RX2) (T := TX2) (N := 17) hx hb hts hiX2 tyX2 tyX2_ok nmX2 hown hK hP hD hS 0 rfl rfl 6 (by decide) hf52 (fun _ h9 => h9) rfl (by decide +kernel) rfl rfl (Nat.le_of_ble_eq_true rfl) dX2_reset_62 (fun H locs hP hD hS => ?_)
      have hP : va_P E.1 vwCl (wP E Bp (va_cpy firstT g 0 0 15) (upd (upd (upd (upd (upd z1 15 v1) 16 v1) 20 0) 17 0) 18 0) lo up pk) H := hP
      have hD : va_D _ (wP E Bp (va_cpy firstT g 0 0 15) (upd (upd (upd (upd (upd z1 15 v1) 16 v1) 20 0) 17 0) 18 0) lo up pk) := hD
      refine lv_aload_n hx hb dX2_reset_65 rfl (lv_at hl 1 rfl) ?_
      refine lv_iconst (v := 0) hx hb dX2_reset_66 (by decide) ?_
      refine va_put (D := E.1) (ci := 2) (v := .int 0) (ty := .int) (C := RX2) (T := TX2) (N := 17) hx hb hts hiX2 tyX2 tyX2_ok nmX2 hown hK hP hD hS 0 rfl rfl 7 (by decide) hf55 (fun _ h9 => h9) rfl (by decide +kernel) rfl rfl (Nat.le_of_ble_eq_true rfl) dX2_reset_67 (fun H locs hP hD hS => ?_)
      have hP : va_P E.1 vwCl (wP E Bp (va_cpy firstT g 0 0 15) (upd (upd (upd (upd (upd (upd z1 15 v1) 16 v1) 20 0) 17 0) 18 0) 19 0) lo up pk) H := hP
      have hD : va_D _ (wP E Bp (va_cpy firstT g 0 0 15) (upd (upd (upd (upd (upd (upd z1 15 v1) 16 v1) 20 0) 17 0) 18 0) 19 0) lo up pk) := hD
      refine lv_aload_n hx hb dX2_reset_70 rfl (lv_at hl 1 rfl) ?_
      refine lv_iconst (v := 0) hx hb dX2_reset_71 (by decide) ?_
      refine va_put (D := E.1) (ci := 2) (v := .int 0) (ty := .int) (C := RX2) (T := TX2) (N := 17) hx hb hts hiX2 tyX2 tyX2_ok nmX2 hown hK hP hD hS 0 rfl rfl 8 (by decide) hf58 (fun _ h9 => h9) rfl (by decide +kernel) rfl rfl (Nat.le_of_ble_eq_true rfl) dX2_reset_72 (fun H locs hP hD hS => ?_)
      have hP : va_P E.1 vwCl (wP E Bp (va_cpy firstT g 0 0 15) (upd (upd (upd (upd (upd (upd (upd z1 15 v1) 16 v1) 20 0) 17 0) 18 0) 19 0) 21 0) lo up pk) H := hP
      have hD : va_D _ (wP E Bp (va_cpy firstT g 0 0 15) (upd (upd (upd (upd (upd (upd (upd z1 15 v1) 16 v1) 20 0) 17 0) 18 0) 19 0) 21 0) lo up pk) := hD
      refine lv_aload_n hx hb dX2_reset_75 rfl (lv_at hl 1 rfl) ?_
      refine lv_iconst (v := 0) hx hb dX2_reset_76 (by decide) ?_
      refine va_put (D := E.1) (ci := 2) (v := .int 0) (ty := .int) (C := RX2) (T := TX2) (N := 17) hx hb hts hiX2 tyX2 tyX2_ok nmX2 hown hK hP hD hS 0 rfl rfl 9 (by decide) hf61 (fun _ h9 => h9) rfl (by decide +kernel) rfl rfl (Nat.le_of_ble_eq_true rfl) dX2_reset_77 (fun H locs hP hD hS => ?_)
      have hP : va_P E.1 vwCl (wP E Bp (va_cpy firstT g 0 0 15) (upd (upd (upd (upd (upd (upd (upd (upd z1 15 v1) 16 v1) 20 0) 17 0) 18 0) 19 0) 21 0) 29 0) lo up pk) H := hP
      have hD : va_D _ (wP E Bp (va_cpy firstT g 0 0 15) (upd (upd (upd (upd (upd (upd (upd (upd z1 15 v1) 16 v1) 20 0) 17 0) 18 0) 19 0) 21 0) 29 0) lo up pk) := hD
      refine lv_aload_n hx hb dX2_reset_80 rfl (lv_at hl 1 rfl) ?_
      refine lv_iconst (v := 0) hx hb dX2_reset_81 (by decide) ?_
      refine va_put (D := E.1) (ci := 2) (v := .int 0) (ty := .int) (C := RX2) (T := TX2) (N := 17) hx hb hts hiX2 tyX2 tyX2_ok nmX2 hown hK hP hD hS 0 rfl rfl 10 (by decide) hf64 (fun _ h9 => h9) rfl (by decide +kernel) rfl rfl (Nat.le_of_ble_eq_true rfl) dX2_reset_82 (fun H locs hP hD hS => ?_)
      have hP : va_P E.1 vwCl (wP E Bp (va_cpy firstT g 0 0 15) (upd (upd (upd (upd (upd (upd (upd (upd (upd z1 15 v1) 16 v1) 20 0) 17 0) 18 0) 19 0) 21 0) 29 0) 30 0) lo up pk) H := hP
      have hD : va_D _ (wP E Bp (va_cpy firstT g 0 0 15) (upd (upd (upd (upd (upd (upd (upd (upd (upd z1 15 v1) 16 v1) 20 0) 17 0) 18 0) 19 0) 21 0) 29 0) 30 0) lo up pk) := hD
      refine lv_aload_n hx hb dX2_reset_85 rfl (lv_at hl 1 rfl) ?_
      refine lv_iconst (v := 0) hx hb dX2_reset_86 (by decide) ?_
      refine va_put (D := E.1) (ci := 2) (v := .int 0) (ty := .int) (C := RX2) (T := TX2) (N := 17) hx hb hts hiX2 tyX2 tyX2_ok nmX2 hown hK hP hD hS 0 rfl rfl 11 (by decide) hf67 (fun _ h9 => h9) rfl (by decide +kernel) rfl rfl (Nat.le_of_ble_eq_true rfl) dX2_reset_87 (fun H locs hP hD hS => ?_)
      have hP : va_P E.1 vwCl (wP E Bp (va_cpy firstT g 0 0 15) (upd (upd (upd (upd (upd (upd (upd (upd (upd (upd z1 15 v1) 16 v1) 20 0) 17 0) 18 0) 19 0) 21 0) 29 0) 30 0) 24 0) lo up pk) H := hP
      have hD : va_D _ (wP E Bp (va_cpy firstT g 0 0 15) (upd (upd (upd (upd (upd (upd (upd (upd (upd (upd z1 15 v1) 16 v1) 20 0) 17 0) 18 0) 19 0) 21 0) 29 0) 30 0) 24 0) lo up pk) := hD
      refine lv_aload_n hx hb dX2_reset_90 rfl (lv_at hl 1 rfl) ?_
      refine lv_iconst (v := 0) hx hb dX2_reset_91 (by decide) ?_
      refine va_put (D := E.1) (ci := 2) (v := .int 0) (ty := .int) (C := RX2) (T := TX2) (N := 17) hx hb hts hiX2 tyX2 tyX2_ok nmX2 hown hK hP hD hS 0 rfl rfl 12 (by decide) hf70 (fun _ h9 => h9) rfl (by decide +kernel) rfl rfl (Nat.le_of_ble_eq_true rfl) dX2_reset_92 (fun H locs hP hD hS => ?_)
      have hP : va_P E.1 vwCl (wP E Bp (va_cpy firstT g 0 0 15) (upd (upd (upd (upd (upd (upd (upd (upd (upd (upd (upd z1 15 v1) 16 v1) 20 0) 17 0) 18 0) 19 0) 21 0) 29 0) 30 0) 24 0) 22 0) lo up pk) H := hP
      have hD : va_D _ (wP E Bp (va_cpy firstT g 0 0 15) (upd (upd (upd (upd (upd (upd (upd (upd (upd (upd (upd z1 15 v1) 16 v1) 20 0) 17 0) 18 0) 19 0) 21 0) 29 0) 30 0) 24 0) 22 0) lo up pk) := hD
      refine lv_aload_n hx hb dX2_reset_95 rfl (lv_at hl 1 rfl) ?_
      refine lv_iconst (v := 0) hx hb dX2_reset_96 (by decide) ?_
      refine va_put (D := E.1) (ci := 2) (v := .int 0) (ty := .int) (C := RX2) (T := TX2) (N := 17) hx hb hts hiX2 tyX2 tyX2_ok nmX2 hown hK hP hD hS 0 rfl rfl 13 (by decide) hf73 (fun _ h9 => h9) rfl (by decide +kernel) rfl rfl (Nat.le_of_ble_eq_true rfl) dX2_reset_97 (fun H locs hP hD hS => ?_)
      have hP : va_P E.1 vwCl (wP E Bp (va_cpy firstT g 0 0 15) (upd (upd (upd (upd (upd (upd (upd (upd (upd (upd (upd z1 15 v1) 16 v1) 20 0) 17 0) 18 0) 19 0) 21 0) 29 0) 30 0) 24 0) 22 0) 0 up pk) H := hP
      have hD : va_D _ (wP E Bp (va_cpy firstT g 0 0 15) (upd (upd (upd (upd (upd (upd (upd (upd (upd (upd (upd z1 15 v1) 16 v1) 20 0) 17 0) 18 0) 19 0) 21 0) 29 0) 30 0) 24 0) 22 0) 0 up pk) := hD
      refine lv_aload_n hx hb dX2_reset_100 rfl (lv_at hl 1 rfl) ?_
      refine lv_iconst (v := 0) hx hb dX2_reset_101 (by decide) ?_
      refine va_put (D := E.1) (ci := 2) (v := .int 0) (ty := .int) (C := RX2) (T := TX2) (N := 17) hx hb hts hiX2 tyX2 tyX2_ok nmX2 hown hK hP hD hS 0 rfl rfl 14 (by decide) hf76 (fun _ h9 => h9) rfl (by decide +kernel) rfl rfl (Nat.le_of_ble_eq_true rfl) dX2_reset_102 (fun H locs hP hD hS => ?_)
      have hP : va_P E.1 vwCl (wP E Bp (va_cpy firstT g 0 0 15) (upd (upd (upd (upd (upd (upd (upd (upd (upd (upd (upd z1 15 v1) 16 v1) 20 0) 17 0) 18 0) 19 0) 21 0) 29 0) 30 0) 24 0) 22 0) 0 0 pk) H := hP
      have hD : va_D _ (wP E Bp (va_cpy firstT g 0 0 15) (upd (upd (upd (upd (upd (upd (upd (upd (upd (upd (upd z1 15 v1) 16 v1) 20 0) 17 0) 18 0) 19 0) 21 0) 29 0) 30 0) 24 0) 22 0) 0 0 pk) := hD
      refine lv_aload_n hx hb dX2_reset_105 rfl (lv_at hl 1 rfl) ?_
      refine lv_iconst (v := 0) hx hb dX2_reset_106 (by decide) ?_
      refine va_put (D := E.1) (ci := 2) (v := .int 0) (ty := .int) (C := RX2) (T := TX2) (N := 17) hx hb hts hiX2 tyX2 tyX2_ok nmX2 hown hK hP hD hS 0 rfl rfl 15 (by decide) hf79 (fun _ h9 => h9) rfl (by decide +kernel) rfl rfl (Nat.le_of_ble_eq_true rfl) dX2_reset_107 (fun H locs hP hD hS => ?_)
      have hP : va_P E.1 vwCl (wP E Bp (va_cpy firstT g 0 0 15) (upd (upd (upd (upd (upd (upd (upd (upd (upd (upd (upd z1 15 v1) 16 v1) 20 0) 17 0) 18 0) 19 0) 21 0) 29 0) 30 0) 24 0) 22 0) 0 0 0) H := hP
      have hD : va_D _ (wP E Bp (va_cpy firstT g 0 0 15) (upd (upd (upd (upd (upd (upd (upd (upd (upd (upd (upd z1 15 v1) 16 v1) 20 0) 17 0) 18 0) 19 0) 21 0) 29 0) 30 0) 24 0) 22 0) 0 0 0) := hD
      refine lv_aload_n hx hb dX2_reset_110 rfl (lv_at hl 1 rfl) ?_
      refine lv_iconst (v := 0) hx hb dX2_reset_111 (by decide) ?_
      refine va_put (D := E.1) (ci := 2) (v := .int 0) (ty := .int) (C := RX2) (T := TX2) (N := 17) hx hb hts hiX2 tyX2 tyX2_ok nmX2 hown hK hP hD hS 0 rfl rfl 16 (by decide) hf82 (fun _ h9 => h9) rfl (by decide +kernel) rfl rfl (Nat.le_of_ble_eq_true rfl) dX2_reset_112 (fun H locs hP hD hS => ?_)
      have hP : va_P E.1 vwCl (wP E Bp (va_cpy firstT g 0 0 15) (upd (upd (upd (upd (upd (upd (upd (upd (upd (upd (upd (upd z1 15 v1) 16 v1) 20 0) 17 0) 18 0) 19 0) 21 0) 29 0) 30 0) 24 0) 22 0) 28 0) 0 0 0) H := hP
      have hD : va_D _ (wP E Bp (va_cpy firstT g 0 0 15) (upd (upd (upd (upd (upd (upd (upd (upd (upd (upd (upd (upd z1 15 v1) 16 v1) 20 0) 17 0) 18 0) 19 0) 21 0) 29 0) 30 0) 24 0) 22 0) 28 0) 0 0 0) := hD
      exact gretv hx hb hr hlocks hP hD hS (by rw [hf]; exact wP_rs) dX2_reset_115
    | succ n ih =>
      intro i z1 H locs ls hin  hfn hP hD hS hl
      refine lv_iload_n hx hb dX2_reset_16 rfl (lv_at hl 0 rfl) ?_
      refine lv_aload_n hx hb dX2_reset_17 rfl (lv_at hl 1 rfl) ?_
      refine va_get (D := E.1) (ci := 2) (v := .ref (Bp 2)) (C := RX2) (T := TX2) (N := 17) hx hb hts hiX2 hown hK hP 0 rfl rfl 1 (by decide) hf25 (fun _ h9 => h9) rfl dX2_reset_18 ?_
      refine va_alen hx hb hK hP 2 1 rfl rfl (v := 4) rfl dX2_reset_21 ?_
      refine lv_icmp_ge (tgt := 40) hx hb dX2_reset_22 (by decide) (fun c_22 => absurd c_22 (nI_ge (b := 4) (by omega) (by omega))) (fun c_22 => ?_)
      refine lv_aload_n hx hb dX2_reset_25 rfl (lv_at hl 1 rfl) ?_
      refine va_get (D := E.1) (ci := 2) (v := .ref (Bp 2)) (C := RX2) (T := TX2) (N := 17) hx hb hts hiX2 hown hK hP 0 rfl rfl 1 (by decide) hf25 (fun _ h9 => h9) rfl dX2_reset_26 ?_
      refine lv_iload_n hx hb dX2_reset_29 rfl (lv_at hl 0 rfl) ?_
      refine galdq (b := Bp (3 + i)) hx hb hK hP 2 rfl i (rfl) (by omega) (by decide) rfl dX2_reset_30 ?_
      refine gvKv (3 + i) (As := []) (rest := []) ⟨hx, hb, hml, hown, hts⟩ (c_X1_reset l E (Bp (3 + i)) (fun j => z1 (35 + 7 * i + j))) (cwV 0 hts gX2_reset_X1_reset rfl rfl rfl (by decide +kernel) ⟨Nat.le_of_ble_eq_true rfl, Nat.le_of_ble_eq_true rfl⟩) (va_recv hK hP (ci := 1) (q0 := (3 + i)) rfl (wP_at (by omega))) hP hK hD hN hS hA (wP_at (by omega)) rfl hl.1 rfl (Nat.le_of_ble_eq_true rfl) dX2_reset_31 ⟨Nat.le_refl _, Nat.le_refl _⟩ (fun H locs hP hD hS => ?_)
      have hP : va_P E.1 vwCl (wP E Bp (va_cpy firstT g 0 0 15) (rst i z1) lo up pk) H := Eq.mp (congrArg (fun w => va_P E.1 vwCl w H) (wP_rst (E := E) (B := Bp) (g := (va_cpy firstT g 0 0 15)) (z := z1) (l := lo) (u := up) (q := pk) (k := i) (by omega) )) hP
      have hD : va_D (va_A (wP E Bp g z lo up pk) s.heap.size) (wP E Bp (va_cpy firstT g 0 0 15) (rst i z1) lo up pk) := Eq.mp (congrArg (fun w => va_D (va_A (wP E Bp g z lo up pk) s.heap.size) w) (wP_rst (E := E) (B := Bp) (g := (va_cpy firstT g 0 0 15)) (z := z1) (l := lo) (u := up) (q := pk) (k := i) (by omega) )) hD
      refine lv_iinc (v := nI (i + 1)) (lv' := [(2, .int (nI (i + 1))), (0, .ref (Bp 0)), (1, .int v1)]) hx hb dX2_reset_34 hl (k := 0) rfl (nI_1 _) (by decide) rfl (fun ls hl => ?_)
      refine lv_goto (tgt := 16) hx hb dX2_reset_37 (by decide) ?_
      exact ih (i + 1) (rst i z1) H locs ls (by omega)  (hfn) hP hD hS (lv_sub hl [0, 1, 2] rfl)
  exact L_16 (4) (0) z H locs ls (by omega)  rfl hP hD hS (lv_sub hl [0, 1, 2] rfl)

set_option maxHeartbeats 4000000 in
set_option maxRecDepth 100000 in
theorem c_X2_copyFrom (l : Launch) (E : EE) (Bp : Nat → Nat) (g z : Nat → Int32) (lo up pk : Int32) (Tp : Nat → Nat) (g2 z2 : Nat → Int32) (lo2 up2 pk2 : Int32) : GM l yX2_copyFrom wsX2_copyFrom 1 21 E (wP E Bp g z lo up pk ++ (wP E Tp g2 z2 lo2 up2 pk2)) [.ref (Tp 0), .ref (Bp 0)] (wP E Bp g z lo up pk ++ (wP E Tp (va_cpy g g2 0 0 15) z lo up pk)) (none) := by
  intro sz
  refine Met.ofW (cc := cX2_copyFrom) (maxL := 3) (ret := none) (by decide) rfl ?_
  intro p e s m args below meth c s₁ B hml hv
  obtain ⟨rfl, rfl, hP, hK, hD0, hN⟩ := hv
  have hx := B.exec
  have hb := B.bytes
  have hr := B.returns
  have hts := atoms_spec (ws := wsX2_copyFrom) B.pre
  have hown : s.vm.findClass RX2 = some m.cls := findClass_of_methodNamed B.named
  have hlocks := B.notSynchronized
  have hD := hD0.self (sz := s.heap.size)
  have hA : ∀ q : Nat, s.heap.size ≤ q → va_A (wP E Bp g z lo up pk ++ (wP E Tp g2 z2 lo2 up2 pk2)) s.heap.size q := fun q h => Or.inr h
  have hS : va_S (va_A (wP E Bp g z lo up pk ++ (wP E Tp g2 z2 lo2 up2 pk2)) s.heap.size) s.heap s.heap [] := va_S.rf
  have hl := lv_entry ([.ref (Tp 0), .ref (Bp 0)]) (n := 3) (Nat.le_of_ble_eq_true rfl)
  rw [lg_entry_eq]
  generalize (lg_sl ([.ref (Tp 0), .ref (Bp 0)]) ++ List.replicate (3 - (lg_sl ([.ref (Tp 0), .ref (Bp 0)])).length) Slot.unset).toArray = ls at hl ⊢
  have hl : lv_has ls 3 [(0, .ref (Tp 0)), (1, .ref (Bp 0))] := hl
  have hf18 := hts (.fieldLink RX2 18 "PhaseConverter$Plant" "settings" "[I") (List.mem_of_getElem? (i := 1) rfl)
  have hf25 := hts (.fieldLink RX2 25 "PhaseConverter$Plant" "phases" "[LPhaseConverter$Phase;") (List.mem_of_getElem? (i := 6) rfl)
  have hf30 := hts (.fieldLink RX2 30 "PhaseConverter$Plant" "phaseCount" "I") (List.mem_of_getElem? (i := 7) rfl)
  have hf34 := hts (.fieldLink RX2 34 "PhaseConverter$Plant" "active" "I") (List.mem_of_getElem? (i := 8) rfl)
  have hf46 := hts (.fieldLink RX2 46 "PhaseConverter$Plant" "mode" "I") (List.mem_of_getElem? (i := 9) rfl)
  have hf49 := hts (.fieldLink RX2 49 "PhaseConverter$Plant" "voltage" "I") (List.mem_of_getElem? (i := 10) rfl)
  have hf52 := hts (.fieldLink RX2 52 "PhaseConverter$Plant" "presentTarget" "I") (List.mem_of_getElem? (i := 11) rfl)
  have hf55 := hts (.fieldLink RX2 55 "PhaseConverter$Plant" "integral" "I") (List.mem_of_getElem? (i := 12) rfl)
  have hf58 := hts (.fieldLink RX2 58 "PhaseConverter$Plant" "duty" "I") (List.mem_of_getElem? (i := 13) rfl)
  have hf61 := hts (.fieldLink RX2 61 "PhaseConverter$Plant" "addingCount" "I") (List.mem_of_getElem? (i := 14) rfl)
  have hf64 := hts (.fieldLink RX2 64 "PhaseConverter$Plant" "sheddingCount" "I") (List.mem_of_getElem? (i := 15) rfl)
  have hf67 := hts (.fieldLink RX2 67 "PhaseConverter$Plant" "cycles" "I") (List.mem_of_getElem? (i := 16) rfl)
  have hf70 := hts (.fieldLink RX2 70 "PhaseConverter$Plant" "meanCurrent" "I") (List.mem_of_getElem? (i := 17) rfl)
  have hf73 := hts (.fieldLink RX2 73 "PhaseConverter$Plant" "leastVoltage" "I") (List.mem_of_getElem? (i := 18) rfl)
  have hf76 := hts (.fieldLink RX2 76 "PhaseConverter$Plant" "greatestVoltage" "I") (List.mem_of_getElem? (i := 19) rfl)
  have hf79 := hts (.fieldLink RX2 79 "PhaseConverter$Plant" "peakCurrent" "I") (List.mem_of_getElem? (i := 20) rfl)
  have hf82 := hts (.fieldLink RX2 82 "PhaseConverter$Plant" "changes" "I") (List.mem_of_getElem? (i := 21) rfl)
  have hiX2 : ∀ w ∈ u_ws RX2 TX2 17, w ∈ wsX2_copyFrom := memIn [34, 35, 36, 37, 38, 39, 40, 41, 42, 43, 44, 45, 46, 47, 48, 49, 50] rfl
  refine lv_aload_n hx hb dX2_copyFrom_0 rfl (lv_at hl 1 rfl) ?_
  refine va_get (D := E.1) (ci := 2) (v := .ref (Bp 1)) (C := RX2) (T := TX2) (N := 17) hx hb hts hiX2 hown hK hP 0 rfl rfl 0 (by decide) hf18 (fun _ h9 => h9) rfl dX2_copyFrom_1 ?_
  refine lv_iconst (v := 0) hx hb dX2_copyFrom_4 (by decide) ?_
  refine lv_aload_n hx hb dX2_copyFrom_5 rfl (lv_at hl 0 rfl) ?_
  refine va_get (D := E.1) (ci := 2) (v := .ref (Tp 1)) (C := RX2) (T := TX2) (N := 17) hx hb hts hiX2 hown hK hP 7 rfl rfl 0 (by decide) hf18 (fun _ h9 => h9) rfl dX2_copyFrom_6 ?_
  refine lv_iconst (v := 0) hx hb dX2_copyFrom_9 (by decide) ?_
  refine lv_bipush (v := 15) hx hb dX2_copyFrom_10 (by decide) ?_
  refine va_copyi (ty := .int) hx hb (by rw [hml]; exact hl.1.symm) hown (hts (.methodLink RX2 37 arraycopyName) (List.mem_of_getElem? (i := 2) rfl)) (hts (.native arraycopyName) (List.mem_of_getElem? (i := 3) rfl)) (hts (.static arraycopyName) (List.mem_of_getElem? (i := 4) rfl)) (hts (.initialized "java/lang/System") (List.mem_of_getElem? (i := 5) rfl)) hK hP hD hS 1 8 0 0 rfl rfl rfl rfl rfl (by decide) (by decide) (by decide) (by decide) (by decide) (fun _ _ => rfl) (Nat.le_of_ble_eq_true rfl) (Nat.le_of_ble_eq_true rfl) dX2_copyFrom_12 (fun H locs hP hD hS => ?_)
  have hP : va_P E.1 vwCl (wP E Bp g z lo up pk ++ (wP E Tp (va_cpy g g2 0 0 15) z2 lo2 up2 pk2)) H := hP
  have hD : va_D _ (wP E Bp g z lo up pk ++ (wP E Tp (va_cpy g g2 0 0 15) z2 lo2 up2 pk2)) := hD
  refine lv_iconst (v := 0) hx hb dX2_copyFrom_15 (by decide) ?_
  refine lv_istore_n (lv' := [(2, .int 0), (0, .ref (Tp 0)), (1, .ref (Bp 0))]) hx hb dX2_copyFrom_16 rfl hl (by decide) rfl (fun ls hl => ?_)
  have L_17 : ∀ (n i : Nat) (z1 : Nat → Int32) (H : Heap) (locs : List Loc) (ls : Array Slot), (i + n = 4) → (cpL z n i z1 = cpL z 4 0 z2) → va_P E.1 vwCl (wP E Bp g z lo up pk ++ (wP E Tp (va_cpy g g2 0 0 15) z1 lo2 up2 pk2)) H → va_D (va_A (wP E Bp g z lo up pk ++ (wP E Tp g2 z2 lo2 up2 pk2)) s.heap.size) (wP E Bp g z lo up pk ++ (wP E Tp (va_cpy g g2 0 0 15) z1 lo2 up2 pk2)) → va_S (va_A (wP E Bp g z lo up pk ++ (wP E Tp g2 z2 lo2 up2 pk2)) s.heap.size) s.heap H locs → lv_has ls 3 [(2, .int (nI i)), (0, .ref (Tp 0)), (1, .ref (Bp 0))] → W p l e (gR wsX2_copyFrom 1 21) s m ([.ref (Tp 0), .ref (Bp 0)] : List Value).toArray below meth c H locs 0 0 (gMQ below E s (wP E Bp g z lo up pk ++ (wP E Tp g2 z2 lo2 up2 pk2)) (wP E Bp g z lo up pk ++ (wP E Tp (va_cpy g g2 0 0 15) z lo up pk)) (none) [.ref (Tp 0), .ref (Bp 0)]) (F0 m 17 ls []) := by
    intro n
    induction n with
    | zero =>
      intro i z1 H locs ls hin  hfn hP hD hS hl
      have hf : z1 = cpL z 4 0 z2 := hfn
      refine lv_iload_n hx hb dX2_copyFrom_17 rfl (lv_at hl 0 rfl) ?_
      refine lv_aload_n hx hb dX2_copyFrom_18 rfl (lv_at hl 1 rfl) ?_
      refine va_get (D := E.1) (ci := 2) (v := .ref (Tp 2)) (C := RX2) (T := TX2) (N := 17) hx hb hts hiX2 hown hK hP 7 rfl rfl 1 (by decide) hf25 (fun _ h9 => h9) rfl dX2_copyFrom_19 ?_
      refine va_alen hx hb hK hP 9 1 rfl rfl (v := 4) rfl dX2_copyFrom_22 ?_
      refine lv_icmp_ge (tgt := 56) hx hb dX2_copyFrom_23 (by decide) (fun c_23 => ?_) (fun c_23 => absurd (nI_le (a := 4) (by omega) (by omega)) c_23)
      refine lv_aload_n hx hb dX2_copyFrom_56 rfl (lv_at hl 1 rfl) ?_
      refine lv_aload_n hx hb dX2_copyFrom_57 rfl (lv_at hl 2 rfl) ?_
      refine va_get (D := E.1) (ci := 2) (v := .int (z 15)) (C := RX2) (T := TX2) (N := 17) hx hb hts hiX2 hown hK hP 0 rfl rfl 2 (by decide) hf30 (fun _ h9 => h9) rfl dX2_copyFrom_58 ?_
      refine va_put (D := E.1) (ci := 2) (v := .int (z 15)) (ty := .int) (C := RX2) (T := TX2) (N := 17) hx hb hts hiX2 tyX2 tyX2_ok nmX2 hown hK hP hD hS 7 rfl rfl 2 (by decide) hf30 (fun _ h9 => h9) rfl (by decide +kernel) rfl rfl (Nat.le_of_ble_eq_true rfl) dX2_copyFrom_61 (fun H locs hP hD hS => ?_)
      have hP : va_P E.1 vwCl (wP E Bp g z lo up pk ++ (wP E Tp (va_cpy g g2 0 0 15) (upd z1 15 (z 15)) lo2 up2 pk2)) H := hP
      have hD : va_D _ (wP E Bp g z lo up pk ++ (wP E Tp (va_cpy g g2 0 0 15) (upd z1 15 (z 15)) lo2 up2 pk2)) := hD
      refine lv_aload_n hx hb dX2_copyFrom_64 rfl (lv_at hl 1 rfl) ?_
      refine lv_aload_n hx hb dX2_copyFrom_65 rfl (lv_at hl 2 rfl) ?_
      refine va_get (D := E.1) (ci := 2) (v := .int (z 16)) (C := RX2) (T := TX2) (N := 17) hx hb hts hiX2 hown hK hP 0 rfl rfl 3 (by decide) hf34 (fun _ h9 => h9) rfl dX2_copyFrom_66 ?_
      refine va_put (D := E.1) (ci := 2) (v := .int (z 16)) (ty := .int) (C := RX2) (T := TX2) (N := 17) hx hb hts hiX2 tyX2 tyX2_ok nmX2 hown hK hP hD hS 7 rfl rfl 3 (by decide) hf34 (fun _ h9 => h9) rfl (by decide +kernel) rfl rfl (Nat.le_of_ble_eq_true rfl) dX2_copyFrom_69 (fun H locs hP hD hS => ?_)
      have hP : va_P E.1 vwCl (wP E Bp g z lo up pk ++ (wP E Tp (va_cpy g g2 0 0 15) (upd (upd z1 15 (z 15)) 16 (z 16)) lo2 up2 pk2)) H := hP
      have hD : va_D _ (wP E Bp g z lo up pk ++ (wP E Tp (va_cpy g g2 0 0 15) (upd (upd z1 15 (z 15)) 16 (z 16)) lo2 up2 pk2)) := hD
      refine lv_aload_n hx hb dX2_copyFrom_72 rfl (lv_at hl 1 rfl) ?_
      refine lv_aload_n hx hb dX2_copyFrom_73 rfl (lv_at hl 2 rfl) ?_
      refine va_get (D := E.1) (ci := 2) (v := .int (z 20)) (C := RX2) (T := TX2) (N := 17) hx hb hts hiX2 hown hK hP 0 rfl rfl 4 (by decide) hf46 (fun _ h9 => h9) rfl dX2_copyFrom_74 ?_
      refine va_put (D := E.1) (ci := 2) (v := .int (z 20)) (ty := .int) (C := RX2) (T := TX2) (N := 17) hx hb hts hiX2 tyX2 tyX2_ok nmX2 hown hK hP hD hS 7 rfl rfl 4 (by decide) hf46 (fun _ h9 => h9) rfl (by decide +kernel) rfl rfl (Nat.le_of_ble_eq_true rfl) dX2_copyFrom_77 (fun H locs hP hD hS => ?_)
      have hP : va_P E.1 vwCl (wP E Bp g z lo up pk ++ (wP E Tp (va_cpy g g2 0 0 15) (upd (upd (upd z1 15 (z 15)) 16 (z 16)) 20 (z 20)) lo2 up2 pk2)) H := hP
      have hD : va_D _ (wP E Bp g z lo up pk ++ (wP E Tp (va_cpy g g2 0 0 15) (upd (upd (upd z1 15 (z 15)) 16 (z 16)) 20 (z 20)) lo2 up2 pk2)) := hD
      refine lv_aload_n hx hb dX2_copyFrom_80 rfl (lv_at hl 1 rfl) ?_
      refine lv_aload_n hx hb dX2_copyFrom_81 rfl (lv_at hl 2 rfl) ?_
      refine va_get (D := E.1) (ci := 2) (v := .int (z 17)) (C := RX2) (T := TX2) (N := 17) hx hb hts hiX2 hown hK hP 0 rfl rfl 5 (by decide) hf49 (fun _ h9 => h9) rfl dX2_copyFrom_82 ?_
      refine va_put (D := E.1) (ci := 2) (v := .int (z 17)) (ty := .int) (C := RX2) (T := TX2) (N := 17) hx hb hts hiX2 tyX2 tyX2_ok nmX2 hown hK hP hD hS 7 rfl rfl 5 (by decide) hf49 (fun _ h9 => h9) rfl (by decide +kernel) rfl rfl (Nat.le_of_ble_eq_true rfl) dX2_copyFrom_85 (fun H locs hP hD hS => ?_)
      have hP : va_P E.1 vwCl (wP E Bp g z lo up pk ++ (wP E Tp (va_cpy g g2 0 0 15) (upd (upd (upd (upd z1 15 (z 15)) 16 (z 16)) 20 (z 20)) 17 (z 17)) lo2 up2 pk2)) H := hP
      have hD : va_D _ (wP E Bp g z lo up pk ++ (wP E Tp (va_cpy g g2 0 0 15) (upd (upd (upd (upd z1 15 (z 15)) 16 (z 16)) 20 (z 20)) 17 (z 17)) lo2 up2 pk2)) := hD
      refine lv_aload_n hx hb dX2_copyFrom_88 rfl (lv_at hl 1 rfl) ?_
      refine lv_aload_n hx hb dX2_copyFrom_89 rfl (lv_at hl 2 rfl) ?_
      refine va_get (D := E.1) (ci := 2) (v := .int (z 18)) (C := RX2) (T := TX2) (N := 17) hx hb hts hiX2 hown hK hP 0 rfl rfl 6 (by decide) hf52 (fun _ h9 => h9) rfl dX2_copyFrom_90 ?_
      refine va_put (D := E.1) (ci := 2) (v := .int (z 18)) (ty := .int) (C := RX2) (T := TX2) (N := 17) hx hb hts hiX2 tyX2 tyX2_ok nmX2 hown hK hP hD hS 7 rfl rfl 6 (by decide) hf52 (fun _ h9 => h9) rfl (by decide +kernel) rfl rfl (Nat.le_of_ble_eq_true rfl) dX2_copyFrom_93 (fun H locs hP hD hS => ?_)
      have hP : va_P E.1 vwCl (wP E Bp g z lo up pk ++ (wP E Tp (va_cpy g g2 0 0 15) (upd (upd (upd (upd (upd z1 15 (z 15)) 16 (z 16)) 20 (z 20)) 17 (z 17)) 18 (z 18)) lo2 up2 pk2)) H := hP
      have hD : va_D _ (wP E Bp g z lo up pk ++ (wP E Tp (va_cpy g g2 0 0 15) (upd (upd (upd (upd (upd z1 15 (z 15)) 16 (z 16)) 20 (z 20)) 17 (z 17)) 18 (z 18)) lo2 up2 pk2)) := hD
      refine lv_aload_n hx hb dX2_copyFrom_96 rfl (lv_at hl 1 rfl) ?_
      refine lv_aload_n hx hb dX2_copyFrom_97 rfl (lv_at hl 2 rfl) ?_
      refine va_get (D := E.1) (ci := 2) (v := .int (z 19)) (C := RX2) (T := TX2) (N := 17) hx hb hts hiX2 hown hK hP 0 rfl rfl 7 (by decide) hf55 (fun _ h9 => h9) rfl dX2_copyFrom_98 ?_
      refine va_put (D := E.1) (ci := 2) (v := .int (z 19)) (ty := .int) (C := RX2) (T := TX2) (N := 17) hx hb hts hiX2 tyX2 tyX2_ok nmX2 hown hK hP hD hS 7 rfl rfl 7 (by decide) hf55 (fun _ h9 => h9) rfl (by decide +kernel) rfl rfl (Nat.le_of_ble_eq_true rfl) dX2_copyFrom_101 (fun H locs hP hD hS => ?_)
      have hP : va_P E.1 vwCl (wP E Bp g z lo up pk ++ (wP E Tp (va_cpy g g2 0 0 15) (upd (upd (upd (upd (upd (upd z1 15 (z 15)) 16 (z 16)) 20 (z 20)) 17 (z 17)) 18 (z 18)) 19 (z 19)) lo2 up2 pk2)) H := hP
      have hD : va_D _ (wP E Bp g z lo up pk ++ (wP E Tp (va_cpy g g2 0 0 15) (upd (upd (upd (upd (upd (upd z1 15 (z 15)) 16 (z 16)) 20 (z 20)) 17 (z 17)) 18 (z 18)) 19 (z 19)) lo2 up2 pk2)) := hD
      refine lv_aload_n hx hb dX2_copyFrom_104 rfl (lv_at hl 1 rfl) ?_
      refine lv_aload_n hx hb dX2_copyFrom_105 rfl (lv_at hl 2 rfl) ?_
      refine va_get (D := E.1) (ci := 2) (v := .int (z 21)) (C := RX2) (T := TX2) (N := 17) hx hb hts hiX2 hown hK hP 0 rfl rfl 8 (by decide) hf58 (fun _ h9 => h9) rfl dX2_copyFrom_106 ?_
      refine va_put (D := E.1) (ci := 2) (v := .int (z 21)) (ty := .int) (C := RX2) (T := TX2) (N := 17) hx hb hts hiX2 tyX2 tyX2_ok nmX2 hown hK hP hD hS 7 rfl rfl 8 (by decide) hf58 (fun _ h9 => h9) rfl (by decide +kernel) rfl rfl (Nat.le_of_ble_eq_true rfl) dX2_copyFrom_109 (fun H locs hP hD hS => ?_)
      have hP : va_P E.1 vwCl (wP E Bp g z lo up pk ++ (wP E Tp (va_cpy g g2 0 0 15) (upd (upd (upd (upd (upd (upd (upd z1 15 (z 15)) 16 (z 16)) 20 (z 20)) 17 (z 17)) 18 (z 18)) 19 (z 19)) 21 (z 21)) lo2 up2 pk2)) H := hP
      have hD : va_D _ (wP E Bp g z lo up pk ++ (wP E Tp (va_cpy g g2 0 0 15) (upd (upd (upd (upd (upd (upd (upd z1 15 (z 15)) 16 (z 16)) 20 (z 20)) 17 (z 17)) 18 (z 18)) 19 (z 19)) 21 (z 21)) lo2 up2 pk2)) := hD
      refine lv_aload_n hx hb dX2_copyFrom_112 rfl (lv_at hl 1 rfl) ?_
      refine lv_aload_n hx hb dX2_copyFrom_113 rfl (lv_at hl 2 rfl) ?_
      refine va_get (D := E.1) (ci := 2) (v := .int (z 29)) (C := RX2) (T := TX2) (N := 17) hx hb hts hiX2 hown hK hP 0 rfl rfl 9 (by decide) hf61 (fun _ h9 => h9) rfl dX2_copyFrom_114 ?_
      refine va_put (D := E.1) (ci := 2) (v := .int (z 29)) (ty := .int) (C := RX2) (T := TX2) (N := 17) hx hb hts hiX2 tyX2 tyX2_ok nmX2 hown hK hP hD hS 7 rfl rfl 9 (by decide) hf61 (fun _ h9 => h9) rfl (by decide +kernel) rfl rfl (Nat.le_of_ble_eq_true rfl) dX2_copyFrom_117 (fun H locs hP hD hS => ?_)
      have hP : va_P E.1 vwCl (wP E Bp g z lo up pk ++ (wP E Tp (va_cpy g g2 0 0 15) (upd (upd (upd (upd (upd (upd (upd (upd z1 15 (z 15)) 16 (z 16)) 20 (z 20)) 17 (z 17)) 18 (z 18)) 19 (z 19)) 21 (z 21)) 29 (z 29)) lo2 up2 pk2)) H := hP
      have hD : va_D _ (wP E Bp g z lo up pk ++ (wP E Tp (va_cpy g g2 0 0 15) (upd (upd (upd (upd (upd (upd (upd (upd z1 15 (z 15)) 16 (z 16)) 20 (z 20)) 17 (z 17)) 18 (z 18)) 19 (z 19)) 21 (z 21)) 29 (z 29)) lo2 up2 pk2)) := hD
      refine lv_aload_n hx hb dX2_copyFrom_120 rfl (lv_at hl 1 rfl) ?_
      refine lv_aload_n hx hb dX2_copyFrom_121 rfl (lv_at hl 2 rfl) ?_
      refine va_get (D := E.1) (ci := 2) (v := .int (z 30)) (C := RX2) (T := TX2) (N := 17) hx hb hts hiX2 hown hK hP 0 rfl rfl 10 (by decide) hf64 (fun _ h9 => h9) rfl dX2_copyFrom_122 ?_
      refine va_put (D := E.1) (ci := 2) (v := .int (z 30)) (ty := .int) (C := RX2) (T := TX2) (N := 17) hx hb hts hiX2 tyX2 tyX2_ok nmX2 hown hK hP hD hS 7 rfl rfl 10 (by decide) hf64 (fun _ h9 => h9) rfl (by decide +kernel) rfl rfl (Nat.le_of_ble_eq_true rfl) dX2_copyFrom_125 (fun H locs hP hD hS => ?_)
      have hP : va_P E.1 vwCl (wP E Bp g z lo up pk ++ (wP E Tp (va_cpy g g2 0 0 15) (upd (upd (upd (upd (upd (upd (upd (upd (upd z1 15 (z 15)) 16 (z 16)) 20 (z 20)) 17 (z 17)) 18 (z 18)) 19 (z 19)) 21 (z 21)) 29 (z 29)) 30 (z 30)) lo2 up2 pk2)) H := hP
      have hD : va_D _ (wP E Bp g z lo up pk ++ (wP E Tp (va_cpy g g2 0 0 15) (upd (upd (upd (upd (upd (upd (upd (upd (upd z1 15 (z 15)) 16 (z 16)) 20 (z 20)) 17 (z 17)) 18 (z 18)) 19 (z 19)) 21 (z 21)) 29 (z 29)) 30 (z 30)) lo2 up2 pk2)) := hD
      refine lv_aload_n hx hb dX2_copyFrom_128 rfl (lv_at hl 1 rfl) ?_
      refine lv_aload_n hx hb dX2_copyFrom_129 rfl (lv_at hl 2 rfl) ?_
      refine va_get (D := E.1) (ci := 2) (v := .int (z 24)) (C := RX2) (T := TX2) (N := 17) hx hb hts hiX2 hown hK hP 0 rfl rfl 11 (by decide) hf67 (fun _ h9 => h9) rfl dX2_copyFrom_130 ?_
      refine va_put (D := E.1) (ci := 2) (v := .int (z 24)) (ty := .int) (C := RX2) (T := TX2) (N := 17) hx hb hts hiX2 tyX2 tyX2_ok nmX2 hown hK hP hD hS 7 rfl rfl 11 (by decide) hf67 (fun _ h9 => h9) rfl (by decide +kernel) rfl rfl (Nat.le_of_ble_eq_true rfl) dX2_copyFrom_133 (fun H locs hP hD hS => ?_)
      have hP : va_P E.1 vwCl (wP E Bp g z lo up pk ++ (wP E Tp (va_cpy g g2 0 0 15) (upd (upd (upd (upd (upd (upd (upd (upd (upd (upd z1 15 (z 15)) 16 (z 16)) 20 (z 20)) 17 (z 17)) 18 (z 18)) 19 (z 19)) 21 (z 21)) 29 (z 29)) 30 (z 30)) 24 (z 24)) lo2 up2 pk2)) H := hP
      have hD : va_D _ (wP E Bp g z lo up pk ++ (wP E Tp (va_cpy g g2 0 0 15) (upd (upd (upd (upd (upd (upd (upd (upd (upd (upd z1 15 (z 15)) 16 (z 16)) 20 (z 20)) 17 (z 17)) 18 (z 18)) 19 (z 19)) 21 (z 21)) 29 (z 29)) 30 (z 30)) 24 (z 24)) lo2 up2 pk2)) := hD
      refine lv_aload_n hx hb dX2_copyFrom_136 rfl (lv_at hl 1 rfl) ?_
      refine lv_aload_n hx hb dX2_copyFrom_137 rfl (lv_at hl 2 rfl) ?_
      refine va_get (D := E.1) (ci := 2) (v := .int (z 22)) (C := RX2) (T := TX2) (N := 17) hx hb hts hiX2 hown hK hP 0 rfl rfl 12 (by decide) hf70 (fun _ h9 => h9) rfl dX2_copyFrom_138 ?_
      refine va_put (D := E.1) (ci := 2) (v := .int (z 22)) (ty := .int) (C := RX2) (T := TX2) (N := 17) hx hb hts hiX2 tyX2 tyX2_ok nmX2 hown hK hP hD hS 7 rfl rfl 12 (by decide) hf70 (fun _ h9 => h9) rfl (by decide +kernel) rfl rfl (Nat.le_of_ble_eq_true rfl) dX2_copyFrom_141 (fun H locs hP hD hS => ?_)
      have hP : va_P E.1 vwCl (wP E Bp g z lo up pk ++ (wP E Tp (va_cpy g g2 0 0 15) (upd (upd (upd (upd (upd (upd (upd (upd (upd (upd (upd z1 15 (z 15)) 16 (z 16)) 20 (z 20)) 17 (z 17)) 18 (z 18)) 19 (z 19)) 21 (z 21)) 29 (z 29)) 30 (z 30)) 24 (z 24)) 22 (z 22)) lo2 up2 pk2)) H := hP
      have hD : va_D _ (wP E Bp g z lo up pk ++ (wP E Tp (va_cpy g g2 0 0 15) (upd (upd (upd (upd (upd (upd (upd (upd (upd (upd (upd z1 15 (z 15)) 16 (z 16)) 20 (z 20)) 17 (z 17)) 18 (z 18)) 19 (z 19)) 21 (z 21)) 29 (z 29)) 30 (z 30)) 24 (z 24)) 22 (z 22)) lo2 up2 pk2)) := hD
      refine lv_aload_n hx hb dX2_copyFrom_144 rfl (lv_at hl 1 rfl) ?_
      refine lv_aload_n hx hb dX2_copyFrom_145 rfl (lv_at hl 2 rfl) ?_
      refine va_get (D := E.1) (ci := 2) (v := .int lo) (C := RX2) (T := TX2) (N := 17) hx hb hts hiX2 hown hK hP 0 rfl rfl 13 (by decide) hf73 (fun _ h9 => h9) rfl dX2_copyFrom_146 ?_
      refine va_put (D := E.1) (ci := 2) (v := .int lo) (ty := .int) (C := RX2) (T := TX2) (N := 17) hx hb hts hiX2 tyX2 tyX2_ok nmX2 hown hK hP hD hS 7 rfl rfl 13 (by decide) hf73 (fun _ h9 => h9) rfl (by decide +kernel) rfl rfl (Nat.le_of_ble_eq_true rfl) dX2_copyFrom_149 (fun H locs hP hD hS => ?_)
      have hP : va_P E.1 vwCl (wP E Bp g z lo up pk ++ (wP E Tp (va_cpy g g2 0 0 15) (upd (upd (upd (upd (upd (upd (upd (upd (upd (upd (upd z1 15 (z 15)) 16 (z 16)) 20 (z 20)) 17 (z 17)) 18 (z 18)) 19 (z 19)) 21 (z 21)) 29 (z 29)) 30 (z 30)) 24 (z 24)) 22 (z 22)) lo up2 pk2)) H := hP
      have hD : va_D _ (wP E Bp g z lo up pk ++ (wP E Tp (va_cpy g g2 0 0 15) (upd (upd (upd (upd (upd (upd (upd (upd (upd (upd (upd z1 15 (z 15)) 16 (z 16)) 20 (z 20)) 17 (z 17)) 18 (z 18)) 19 (z 19)) 21 (z 21)) 29 (z 29)) 30 (z 30)) 24 (z 24)) 22 (z 22)) lo up2 pk2)) := hD
      refine lv_aload_n hx hb dX2_copyFrom_152 rfl (lv_at hl 1 rfl) ?_
      refine lv_aload_n hx hb dX2_copyFrom_153 rfl (lv_at hl 2 rfl) ?_
      refine va_get (D := E.1) (ci := 2) (v := .int up) (C := RX2) (T := TX2) (N := 17) hx hb hts hiX2 hown hK hP 0 rfl rfl 14 (by decide) hf76 (fun _ h9 => h9) rfl dX2_copyFrom_154 ?_
      refine va_put (D := E.1) (ci := 2) (v := .int up) (ty := .int) (C := RX2) (T := TX2) (N := 17) hx hb hts hiX2 tyX2 tyX2_ok nmX2 hown hK hP hD hS 7 rfl rfl 14 (by decide) hf76 (fun _ h9 => h9) rfl (by decide +kernel) rfl rfl (Nat.le_of_ble_eq_true rfl) dX2_copyFrom_157 (fun H locs hP hD hS => ?_)
      have hP : va_P E.1 vwCl (wP E Bp g z lo up pk ++ (wP E Tp (va_cpy g g2 0 0 15) (upd (upd (upd (upd (upd (upd (upd (upd (upd (upd (upd z1 15 (z 15)) 16 (z 16)) 20 (z 20)) 17 (z 17)) 18 (z 18)) 19 (z 19)) 21 (z 21)) 29 (z 29)) 30 (z 30)) 24 (z 24)) 22 (z 22)) lo up pk2)) H := hP
      have hD : va_D _ (wP E Bp g z lo up pk ++ (wP E Tp (va_cpy g g2 0 0 15) (upd (upd (upd (upd (upd (upd (upd (upd (upd (upd (upd z1 15 (z 15)) 16 (z 16)) 20 (z 20)) 17 (z 17)) 18 (z 18)) 19 (z 19)) 21 (z 21)) 29 (z 29)) 30 (z 30)) 24 (z 24)) 22 (z 22)) lo up pk2)) := hD
      refine lv_aload_n hx hb dX2_copyFrom_160 rfl (lv_at hl 1 rfl) ?_
      refine lv_aload_n hx hb dX2_copyFrom_161 rfl (lv_at hl 2 rfl) ?_
      refine va_get (D := E.1) (ci := 2) (v := .int pk) (C := RX2) (T := TX2) (N := 17) hx hb hts hiX2 hown hK hP 0 rfl rfl 15 (by decide) hf79 (fun _ h9 => h9) rfl dX2_copyFrom_162 ?_
      refine va_put (D := E.1) (ci := 2) (v := .int pk) (ty := .int) (C := RX2) (T := TX2) (N := 17) hx hb hts hiX2 tyX2 tyX2_ok nmX2 hown hK hP hD hS 7 rfl rfl 15 (by decide) hf79 (fun _ h9 => h9) rfl (by decide +kernel) rfl rfl (Nat.le_of_ble_eq_true rfl) dX2_copyFrom_165 (fun H locs hP hD hS => ?_)
      have hP : va_P E.1 vwCl (wP E Bp g z lo up pk ++ (wP E Tp (va_cpy g g2 0 0 15) (upd (upd (upd (upd (upd (upd (upd (upd (upd (upd (upd z1 15 (z 15)) 16 (z 16)) 20 (z 20)) 17 (z 17)) 18 (z 18)) 19 (z 19)) 21 (z 21)) 29 (z 29)) 30 (z 30)) 24 (z 24)) 22 (z 22)) lo up pk)) H := hP
      have hD : va_D _ (wP E Bp g z lo up pk ++ (wP E Tp (va_cpy g g2 0 0 15) (upd (upd (upd (upd (upd (upd (upd (upd (upd (upd (upd z1 15 (z 15)) 16 (z 16)) 20 (z 20)) 17 (z 17)) 18 (z 18)) 19 (z 19)) 21 (z 21)) 29 (z 29)) 30 (z 30)) 24 (z 24)) 22 (z 22)) lo up pk)) := hD
      refine lv_aload_n hx hb dX2_copyFrom_168 rfl (lv_at hl 1 rfl) ?_
      refine lv_aload_n hx hb dX2_copyFrom_169 rfl (lv_at hl 2 rfl) ?_
      refine va_get (D := E.1) (ci := 2) (v := .int (z 28)) (C := RX2) (T := TX2) (N := 17) hx hb hts hiX2 hown hK hP 0 rfl rfl 16 (by decide) hf82 (fun _ h9 => h9) rfl dX2_copyFrom_170 ?_
      refine va_put (D := E.1) (ci := 2) (v := .int (z 28)) (ty := .int) (C := RX2) (T := TX2) (N := 17) hx hb hts hiX2 tyX2 tyX2_ok nmX2 hown hK hP hD hS 7 rfl rfl 16 (by decide) hf82 (fun _ h9 => h9) rfl (by decide +kernel) rfl rfl (Nat.le_of_ble_eq_true rfl) dX2_copyFrom_173 (fun H locs hP hD hS => ?_)
      have hP : va_P E.1 vwCl (wP E Bp g z lo up pk ++ (wP E Tp (va_cpy g g2 0 0 15) (upd (upd (upd (upd (upd (upd (upd (upd (upd (upd (upd (upd z1 15 (z 15)) 16 (z 16)) 20 (z 20)) 17 (z 17)) 18 (z 18)) 19 (z 19)) 21 (z 21)) 29 (z 29)) 30 (z 30)) 24 (z 24)) 22 (z 22)) 28 (z 28)) lo up pk)) H := hP
      have hD : va_D _ (wP E Bp g z lo up pk ++ (wP E Tp (va_cpy g g2 0 0 15) (upd (upd (upd (upd (upd (upd (upd (upd (upd (upd (upd (upd z1 15 (z 15)) 16 (z 16)) 20 (z 20)) 17 (z 17)) 18 (z 18)) 19 (z 19)) 21 (z 21)) 29 (z 29)) 30 (z 30)) 24 (z 24)) 22 (z 22)) 28 (z 28)) lo up pk)) := hD
      exact gretv hx hb hr hlocks hP hD hS (by rw [hf]; exact congrArg (fun y => wP E Bp g z lo up pk ++ y) wP_cpy) dX2_copyFrom_176
    | succ n ih =>
      intro i z1 H locs ls hin  hfn hP hD hS hl
      refine lv_iload_n hx hb dX2_copyFrom_17 rfl (lv_at hl 0 rfl) ?_
      refine lv_aload_n hx hb dX2_copyFrom_18 rfl (lv_at hl 1 rfl) ?_
      refine va_get (D := E.1) (ci := 2) (v := .ref (Tp 2)) (C := RX2) (T := TX2) (N := 17) hx hb hts hiX2 hown hK hP 7 rfl rfl 1 (by decide) hf25 (fun _ h9 => h9) rfl dX2_copyFrom_19 ?_
      refine va_alen hx hb hK hP 9 1 rfl rfl (v := 4) rfl dX2_copyFrom_22 ?_
      refine lv_icmp_ge (tgt := 56) hx hb dX2_copyFrom_23 (by decide) (fun c_23 => absurd c_23 (nI_ge (b := 4) (by omega) (by omega))) (fun c_23 => ?_)
      refine lv_iload_n hx hb dX2_copyFrom_26 rfl (lv_at hl 0 rfl) ?_
      refine lv_aload_n hx hb dX2_copyFrom_27 rfl (lv_at hl 2 rfl) ?_
      refine va_get (D := E.1) (ci := 2) (v := .ref (Bp 2)) (C := RX2) (T := TX2) (N := 17) hx hb hts hiX2 hown hK hP 0 rfl rfl 1 (by decide) hf25 (fun _ h9 => h9) rfl dX2_copyFrom_28 ?_
      refine va_alen hx hb hK hP 2 1 rfl rfl (v := 4) rfl dX2_copyFrom_31 ?_
      refine lv_icmp_ge (tgt := 56) hx hb dX2_copyFrom_32 (by decide) (fun c_32 => absurd c_32 (nI_ge (b := 4) (by omega) (by omega))) (fun c_32 => ?_)
      refine lv_aload_n hx hb dX2_copyFrom_35 rfl (lv_at hl 1 rfl) ?_
      refine va_get (D := E.1) (ci := 2) (v := .ref (Tp 2)) (C := RX2) (T := TX2) (N := 17) hx hb hts hiX2 hown hK hP 7 rfl rfl 1 (by decide) hf25 (fun _ h9 => h9) rfl dX2_copyFrom_36 ?_
      refine lv_iload_n hx hb dX2_copyFrom_39 rfl (lv_at hl 0 rfl) ?_
      refine galdq (b := Tp (3 + i)) hx hb hK hP 9 rfl i (rfl) (by omega) (by decide) rfl dX2_copyFrom_40 ?_
      refine lv_aload_n hx hb dX2_copyFrom_41 rfl (lv_at hl 2 rfl) ?_
      refine va_get (D := E.1) (ci := 2) (v := .ref (Bp 2)) (C := RX2) (T := TX2) (N := 17) hx hb hts hiX2 hown hK hP 0 rfl rfl 1 (by decide) hf25 (fun _ h9 => h9) rfl dX2_copyFrom_42 ?_
      refine lv_iload_n hx hb dX2_copyFrom_45 rfl (lv_at hl 0 rfl) ?_
      refine galdq (b := Bp (3 + i)) hx hb hK hP 2 rfl i (rfl) (by omega) (by decide) rfl dX2_copyFrom_46 ?_
      refine gvDv (7 + (3 + i)) (3 + i) (As := [.ref (Bp (3 + i))]) (rest := []) ⟨hx, hb, hml, hown, hts⟩ (c_X1_copyFrom l E (Tp (3 + i)) (Bp (3 + i)) (fun j => z1 (35 + 7 * i + j)) (fun j => z (35 + 7 * i + j))) (cwV 1 hts gX2_copyFrom_X1_copyFrom rfl rfl rfl (by decide +kernel) ⟨Nat.le_of_ble_eq_true rfl, Nat.le_of_ble_eq_true rfl⟩) (va_recv hK hP (ci := 1) (q0 := (7 + (3 + i))) rfl (gat3 (X := (wP E Bp g z lo up pk)) (wc := (wP E Tp (va_cpy g g2 0 0 15) z1 lo2 up2 pk2)) (Y := ([] : va_W)) (wP_at (k := i) (by omega)))) hP hK hD hN hS hA (gat3 (X := (wP E Bp g z lo up pk)) (wc := (wP E Tp (va_cpy g g2 0 0 15) z1 lo2 up2 pk2)) (Y := ([] : va_W)) (wP_at (k := i) (by omega))) (gat0 (wc := (wP E Bp g z lo up pk)) (Y := (wP E Tp (va_cpy g g2 0 0 15) z1 lo2 up2 pk2)) (wP_at (k := i) (by omega))) (by omega) rfl hl.1 rfl (Nat.le_of_ble_eq_true rfl) dX2_copyFrom_47 ⟨Nat.le_refl _, Nat.le_refl _⟩ (fun H locs hP hD hS => ?_)
      have hP : va_P E.1 vwCl (wP E Bp g z lo up pk ++ (wP E Tp (va_cpy g g2 0 0 15) (cpPh i z z1) lo2 up2 pk2)) H := Eq.mp (congrArg (fun w => va_P E.1 vwCl w H) (wP_cp2 (E := E) (B := Bp) (T := Tp) (g := g) (z := z) (l := lo) (u := up) (q := pk) (g2 := (va_cpy g g2 0 0 15)) (y := z1) (l2 := lo2) (u2 := up2) (q2 := pk2) (k := i) (by omega))) hP
      have hD : va_D (va_A (wP E Bp g z lo up pk ++ (wP E Tp g2 z2 lo2 up2 pk2)) s.heap.size) (wP E Bp g z lo up pk ++ (wP E Tp (va_cpy g g2 0 0 15) (cpPh i z z1) lo2 up2 pk2)) := Eq.mp (congrArg (fun w => va_D (va_A (wP E Bp g z lo up pk ++ (wP E Tp g2 z2 lo2 up2 pk2)) s.heap.size) w) (wP_cp2 (E := E) (B := Bp) (T := Tp) (g := g) (z := z) (l := lo) (u := up) (q := pk) (g2 := (va_cpy g g2 0 0 15)) (y := z1) (l2 := lo2) (u2 := up2) (q2 := pk2) (k := i) (by omega))) hD
      refine lv_iinc (v := nI (i + 1)) (lv' := [(2, .int (nI (i + 1))), (0, .ref (Tp 0)), (1, .ref (Bp 0))]) hx hb dX2_copyFrom_50 hl (k := 0) rfl (nI_1 _) (by decide) rfl (fun ls hl => ?_)
      refine lv_goto (tgt := 17) hx hb dX2_copyFrom_53 (by decide) ?_
      exact ih (i + 1) (cpPh i z z1) H locs ls (by omega)  (hfn) hP hD hS (lv_sub hl [0, 1, 2] rfl)
  exact L_17 (4) (0) z2 H locs ls (by omega)  rfl hP hD hS (lv_sub hl [0, 1, 2] rfl)
