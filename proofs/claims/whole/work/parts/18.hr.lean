set_option maxHeartbeats 4000000 in
set_option maxRecDepth 100000 in
theorem c_X4_isDigit (l : Launch) (E : EE) (v : Int32) : GM l yX4_isDigit wsX4_isDigit 0 0 E ([]) [.int v] ([]) (some (.int (inRg v 48 57))) := by
  intro sz
  refine Met.ofW (cc := cX4_isDigit) (maxL := 1) (ret := (some .boolean)) (by decide) rfl ?_
  intro p e s m args below meth c s₁ B hml hv
  obtain ⟨rfl, rfl, hP, hK, hD0, hN⟩ := hv
  have hx := B.exec
  have hb := B.bytes
  have hr := B.returns
  have hts := atoms_spec (ws := wsX4_isDigit) B.pre
  have hown : s.vm.findClass RX4 = some m.cls := findClass_of_methodNamed B.named
  have hlocks := B.notSynchronized
  have hD := hD0.self (sz := s.heap.size)
  have hA : ∀ q : Nat, s.heap.size ≤ q → va_A ([]) s.heap.size q := fun q h => Or.inr h
  have hS : va_S (va_A ([]) s.heap.size) s.heap s.heap [] := va_S.rf
  have hl := lv_entry ([.int v]) (n := 1) (Nat.le_of_ble_eq_true rfl)
  rw [lg_entry_eq]
  generalize (lg_sl ([.int v]) ++ List.replicate (1 - (lg_sl ([.int v])).length) Slot.unset).toArray = ls at hl ⊢
  have hl : lv_has ls 1 [(0, .int v)] := hl
  refine lv_iload_n hx hb dX4_isDigit_0 rfl (lv_at hl 0 rfl) ?_
  refine lv_bipush (v := 48) hx hb dX4_isDigit_1 (by decide) ?_
  refine lv_icmp_lt (tgt := 16) hx hb dX4_isDigit_3 (by decide) (fun c_3 => ?_) (fun c_3 => ?_)
  · refine lv_iconst (v := 0) hx hb dX4_isDigit_16 (by decide) ?_
    exact gretz hx hb hr hlocks hP hD hS (by first | exact Or.inl rfl | exact Or.inr rfl) (by simp only [inRg, if_pos c_3]) (rfl) dX4_isDigit_17
  · refine lv_iload_n hx hb dX4_isDigit_6 rfl (lv_at hl 0 rfl) ?_
    refine lv_bipush (v := 57) hx hb dX4_isDigit_7 (by decide) ?_
    refine lv_icmp_gt (tgt := 16) hx hb dX4_isDigit_9 (by decide) (fun c_9 => ?_) (fun c_9 => ?_)
    · refine lv_iconst (v := 0) hx hb dX4_isDigit_16 (by decide) ?_
      exact gretz hx hb hr hlocks hP hD hS (by first | exact Or.inl rfl | exact Or.inr rfl) (by simp only [inRg, if_neg c_3, if_pos c_9]) (rfl) dX4_isDigit_17
    · refine lv_iconst (v := 1) hx hb dX4_isDigit_12 (by decide) ?_
      refine lv_goto (tgt := 17) hx hb dX4_isDigit_13 (by decide) ?_
      exact gretz hx hb hr hlocks hP hD hS (by first | exact Or.inl rfl | exact Or.inr rfl) (by simp only [inRg, if_neg c_3, if_neg c_9]) (rfl) dX4_isDigit_17

set_option maxHeartbeats 4000000 in
set_option maxRecDepth 100000 in
theorem c_X0_forget (l : Launch) (E : EE) (Cp : Nat → Nat) (sz nw : Int32) (pf : Nat → Int32) : GM l yX0_forget wsX0_forget 0 0 E (wH E Cp sz nw pf) [.ref (Cp 0)] (wH E Cp 0 0 pf) (none) := by
  intro sz
  refine Met.ofW (cc := cX0_forget) (maxL := 1) (ret := none) (by decide) rfl ?_
  intro p e s m args below meth c s₁ B hml hv
  obtain ⟨rfl, rfl, hP, hK, hD0, hN⟩ := hv
  have hx := B.exec
  have hb := B.bytes
  have hr := B.returns
  have hts := atoms_spec (ws := wsX0_forget) B.pre
  have hown : s.vm.findClass RX0 = some m.cls := findClass_of_methodNamed B.named
  have hlocks := B.notSynchronized
  have hD := hD0.self (sz := s.heap.size)
  have hA : ∀ q : Nat, s.heap.size ≤ q → va_A (wH E Cp sz nw pf) s.heap.size q := fun q h => Or.inr h
  have hS : va_S (va_A (wH E Cp sz nw pf) s.heap.size) s.heap s.heap [] := va_S.rf
  have hl := lv_entry ([.ref (Cp 0)]) (n := 1) (Nat.le_of_ble_eq_true rfl)
  rw [lg_entry_eq]
  generalize (lg_sl ([.ref (Cp 0)]) ++ List.replicate (1 - (lg_sl ([.ref (Cp 0)])).length) Slot.unset).toArray = ls at hl ⊢
  have hl : lv_has ls 1 [(0, .ref (Cp 0))] := hl
  have hf15 := hts (.fieldLink RX0 15 "PhaseConverter$History" "size" "I") (List.mem_of_getElem? (i := 1) rfl)
  have hf19 := hts (.fieldLink RX0 19 "PhaseConverter$History" "newest" "I") (List.mem_of_getElem? (i := 2) rfl)
  have hiX0 : ∀ w ∈ u_ws RX0 TX0 3, w ∈ wsX0_forget := memIn [3, 4, 5] rfl
  refine lv_aload_n hx hb dX0_forget_0 rfl (lv_at hl 0 rfl) ?_
  refine lv_iconst (v := 0) hx hb dX0_forget_1 (by decide) ?_
  refine va_put (D := E.1) (ci := 0) (v := .int 0) (ty := .int) (C := RX0) (T := TX0) (N := 3) hx hb hts hiX0 tyX0 tyX0_ok nmX0 hown hK hP hD hS 0 rfl rfl 1 (by decide) hf15 (fun _ h9 => h9) rfl (by decide +kernel) rfl rfl (Nat.le_of_ble_eq_true rfl) dX0_forget_2 (fun H locs hP hD hS => ?_)
  have hP : va_P E.1 vwCl (wH E Cp 0 nw pf) H := hP
  have hD : va_D _ (wH E Cp 0 nw pf) := hD
  refine lv_aload_n hx hb dX0_forget_5 rfl (lv_at hl 0 rfl) ?_
  refine lv_iconst (v := 0) hx hb dX0_forget_6 (by decide) ?_
  refine va_put (D := E.1) (ci := 0) (v := .int 0) (ty := .int) (C := RX0) (T := TX0) (N := 3) hx hb hts hiX0 tyX0 tyX0_ok nmX0 hown hK hP hD hS 0 rfl rfl 2 (by decide) hf19 (fun _ h9 => h9) rfl (by decide +kernel) rfl rfl (Nat.le_of_ble_eq_true rfl) dX0_forget_7 (fun H locs hP hD hS => ?_)
  have hP : va_P E.1 vwCl (wH E Cp 0 0 pf) H := hP
  have hD : va_D _ (wH E Cp 0 0 pf) := hD
  exact gretv hx hb hr hlocks hP hD hS (rfl) dX0_forget_10

set_option maxHeartbeats 4000000 in
set_option maxRecDepth 100000 in
theorem c_X0_keep (l : Launch) (E : EE) (Cp : Nat → Nat) (sz nw : Int32) (pf : Nat → Int32) (Bp : Nat → Nat) (g z : Nat → Int32) (lo up pk : Int32) (v2 : Int32) (Wn Sn : Nat) (hW : nw = nI Wn) (hW6 : Wn < 16) (hs : sz = nI Sn) (hs6 : Sn ≤ 16) : GM l yX0_keep wsX0_keep 1 21 E (wH E Cp sz nw pf ++ (wP E Bp g z lo up pk)) [.ref (Cp 0), .ref (Bp 0), .int v2] (wH E Cp (nI (min (Sn + 1) 16)) (nI ((Wn + 1) % 16)) (kpF Wn pf z (up - lo) v2) ++ (wP E Bp g z lo up pk)) (none) := by
  intro sz
  refine Met.ofW (cc := cX0_keep) (maxL := 4) (ret := none) (by decide) rfl ?_
  intro p e s m args below meth c s₁ B hml hv
  obtain ⟨rfl, rfl, hP, hK, hD0, hN⟩ := hv
  have hx := B.exec
  have hb := B.bytes
  have hr := B.returns
  have hts := atoms_spec (ws := wsX0_keep) B.pre
  have hown : s.vm.findClass RX0 = some m.cls := findClass_of_methodNamed B.named
  have hlocks := B.notSynchronized
  have hD := hD0.self (sz := s.heap.size)
  have hA : ∀ q : Nat, s.heap.size ≤ q → va_A (wH E Cp sz nw pf ++ (wP E Bp g z lo up pk)) s.heap.size q := fun q h => Or.inr h
  have hS : va_S (va_A (wH E Cp sz nw pf ++ (wP E Bp g z lo up pk)) s.heap.size) s.heap s.heap [] := va_S.rf
  have hl := lv_entry ([.ref (Cp 0), .ref (Bp 0), .int v2]) (n := 4) (Nat.le_of_ble_eq_true rfl)
  rw [lg_entry_eq]
  generalize (lg_sl ([.ref (Cp 0), .ref (Bp 0), .int v2]) ++ List.replicate (4 - (lg_sl ([.ref (Cp 0), .ref (Bp 0), .int v2])).length) Slot.unset).toArray = ls at hl ⊢
  have hl : lv_has ls 4 [(0, .ref (Cp 0)), (1, .ref (Bp 0)), (2, .int v2)] := hl
  have hf15 := hts (.fieldLink RX0 15 "PhaseConverter$History" "size" "I") (List.mem_of_getElem? (i := 2) rfl)
  have hf19 := hts (.fieldLink RX0 19 "PhaseConverter$History" "newest" "I") (List.mem_of_getElem? (i := 1) rfl)
  have hf28 := hts (.fieldLink RX0 28 "PhaseConverter$Plant" "voltage" "I") (List.mem_of_getElem? (i := 8) rfl)
  have hf33 := hts (.fieldLink RX0 33 "PhaseConverter$Plant" "meanCurrent" "I") (List.mem_of_getElem? (i := 9) rfl)
  have hf40 := hts (.fieldLink RX0 40 "PhaseConverter$Plant" "active" "I") (List.mem_of_getElem? (i := 10) rfl)
  have hf43 := hts (.fieldLink RX0 43 "PhaseConverter$Plant" "mode" "I") (List.mem_of_getElem? (i := 11) rfl)
  have hf9 := hts (.fieldLink RX0 9 "PhaseConverter$History" "parts" "[I") (List.mem_of_getElem? (i := 7) rfl)
  have hiX0 : ∀ w ∈ u_ws RX0 TX0 3, w ∈ wsX0_keep := memIn [19, 20, 21] rfl
  have hiX2 : ∀ w ∈ u_ws RX2 TX2 17, w ∈ wsX0_keep := memIn [22, 23, 24, 25, 26, 27, 28, 29, 30, 31, 32, 33, 34, 35, 36, 37, 38] rfl
  refine lv_aload_n hx hb dX0_keep_0 rfl (lv_at hl 0 rfl) ?_
  refine lv_aload_n hx hb dX0_keep_1 rfl (lv_at hl 0 rfl) ?_
  refine va_get (D := E.1) (ci := 0) (v := .int nw) (C := RX0) (T := TX0) (N := 3) hx hb hts hiX0 hown hK hP 0 rfl rfl 2 (by decide) hf19 (fun _ h9 => h9) rfl dX0_keep_2 ?_
  refine lv_iconst (v := 1) hx hb dX0_keep_5 (by decide) ?_
  refine lv_iadd hx hb dX0_keep_6 ?_
  refine lv_bipush (v := 16) hx hb dX0_keep_7 (by decide) ?_
  refine lv_irem hx hb dX0_keep_9 (by decide) ?_
  refine W.eq (g2 := F0 m 10 ls [.int (nI ((Wn + 1) % 16)), .ref (Cp 0)]) (by rw [kp_nw hW hW6]) ?_
  refine va_put (D := E.1) (ci := 0) (v := .int (nI ((Wn + 1) % 16))) (ty := .int) (C := RX0) (T := TX0) (N := 3) hx hb hts hiX0 tyX0 tyX0_ok nmX0 hown hK hP hD hS 0 rfl rfl 2 (by decide) hf19 (fun _ h9 => h9) rfl (by decide +kernel) rfl rfl (Nat.le_of_ble_eq_true rfl) dX0_keep_10 (fun H locs hP hD hS => ?_)
  have hP : va_P E.1 vwCl (wH E Cp sz (nI ((Wn + 1) % 16)) pf ++ (wP E Bp g z lo up pk)) H := hP
  have hD : va_D _ (wH E Cp sz (nI ((Wn + 1) % 16)) pf ++ (wP E Bp g z lo up pk)) := hD
  refine lv_aload_n hx hb dX0_keep_13 rfl (lv_at hl 0 rfl) ?_
  refine lv_aload_n hx hb dX0_keep_14 rfl (lv_at hl 0 rfl) ?_
  refine va_get (D := E.1) (ci := 0) (v := .int sz) (C := RX0) (T := TX0) (N := 3) hx hb hts hiX0 hown hK hP 0 rfl rfl 1 (by decide) hf15 (fun _ h9 => h9) rfl dX0_keep_15 ?_
  refine lv_iconst (v := 1) hx hb dX0_keep_18 (by decide) ?_
  refine lv_iadd hx hb dX0_keep_19 ?_
  refine lv_bipush (v := 16) hx hb dX0_keep_20 (by decide) ?_
  refine va_mmin hx hb (by rw [hml]; exact hl.1.symm) hown (hts (.methodLink RX0 22 Lib.Math.min.name) (List.mem_of_getElem? (i := 3) rfl)) (hts (.static Lib.Math.min.name) (List.mem_of_getElem? (i := 4) rfl)) (hts (.initialized "java/lang/Math") (List.mem_of_getElem? (i := 5) rfl)) (hts (.code Lib.Math.min.name Lib.Math.min.code 2 (some .int)) (List.mem_of_getElem? (i := 6) rfl)) (Nat.le_of_ble_eq_true rfl) (Nat.le_of_ble_eq_true rfl) (Nat.le_of_ble_eq_true rfl) (Nat.le_of_ble_eq_true rfl) dX0_keep_22 ?_
  refine W.eq (g2 := F0 m 25 ls [.int (nI (min (Sn + 1) 16)), .ref (Cp 0)]) (by rw [kp_sz hs hs6]) ?_
  refine va_put (D := E.1) (ci := 0) (v := .int (nI (min (Sn + 1) 16))) (ty := .int) (C := RX0) (T := TX0) (N := 3) hx hb hts hiX0 tyX0 tyX0_ok nmX0 hown hK hP hD hS 0 rfl rfl 1 (by decide) hf15 (fun _ h9 => h9) rfl (by decide +kernel) rfl rfl (Nat.le_of_ble_eq_true rfl) dX0_keep_25 (fun H locs hP hD hS => ?_)
  have hP : va_P E.1 vwCl (wH E Cp (nI (min (Sn + 1) 16)) (nI ((Wn + 1) % 16)) pf ++ (wP E Bp g z lo up pk)) H := hP
  have hD : va_D _ (wH E Cp (nI (min (Sn + 1) 16)) (nI ((Wn + 1) % 16)) pf ++ (wP E Bp g z lo up pk)) := hD
  refine lv_aload_n hx hb dX0_keep_28 rfl (lv_at hl 0 rfl) ?_
  refine va_get (D := E.1) (ci := 0) (v := .int (nI ((Wn + 1) % 16))) (C := RX0) (T := TX0) (N := 3) hx hb hts hiX0 hown hK hP 0 rfl rfl 2 (by decide) hf19 (fun _ h9 => h9) rfl dX0_keep_29 ?_
  refine lv_bipush (v := 6) hx hb dX0_keep_32 (by decide) ?_
  refine lv_imul hx hb dX0_keep_34 ?_
  refine W.eq (g2 := F0 m 35 ls [.int (nI ((Wn + 1) % 16 * 6))]) (by rw [kp_at]) ?_
  refine lv_istore_n (lv' := [(3, .int (nI ((Wn + 1) % 16 * 6))), (0, .ref (Cp 0)), (1, .ref (Bp 0)), (2, .int v2)]) hx hb dX0_keep_35 rfl hl (by decide) rfl (fun ls hl => ?_)
  refine lv_iload_n hx hb dX0_keep_36 rfl (lv_at hl 0 rfl) ?_
  refine lv_if_lt (tgt := 52) hx hb dX0_keep_37 (by decide) (fun c_37 => absurd c_37 (nI_pos (by omega))) (fun c_37 => ?_)
  refine lv_iload_n hx hb dX0_keep_40 rfl (lv_at hl 0 rfl) ?_
  refine lv_bipush (v := 6) hx hb dX0_keep_41 (by decide) ?_
  refine lv_iadd hx hb dX0_keep_43 ?_
  refine lv_aload_n hx hb dX0_keep_44 rfl (lv_at hl 1 rfl) ?_
  refine va_get (D := E.1) (ci := 0) (v := .ref (Cp 1)) (C := RX0) (T := TX0) (N := 3) hx hb hts hiX0 hown hK hP 0 rfl rfl 0 (by decide) hf9 (fun _ h9 => h9) rfl dX0_keep_45 ?_
  refine va_alen hx hb hK hP 1 0 rfl rfl (v := 96) rfl dX0_keep_48 ?_
  refine lv_icmp_le (tgt := 53) hx hb dX0_keep_49 (by decide) (fun c_49 => ?_) (fun c_49 => absurd (by rw [show (6 : Int32) = nI 6 from rfl, nI_add]; exact nI_le (b := 96) (by omega) (by omega)) c_49)
  refine lv_aload_n hx hb dX0_keep_53 rfl (lv_at hl 1 rfl) ?_
  refine va_get (D := E.1) (ci := 0) (v := .ref (Cp 1)) (C := RX0) (T := TX0) (N := 3) hx hb hts hiX0 hown hK hP 0 rfl rfl 0 (by decide) hf9 (fun _ h9 => h9) rfl dX0_keep_54 ?_
  refine lv_iload_n hx hb dX0_keep_57 rfl (lv_at hl 0 rfl) ?_
  refine lv_aload_n hx hb dX0_keep_58 rfl (lv_at hl 2 rfl) ?_
  refine va_get (D := E.1) (ci := 2) (v := .int (z 17)) (C := RX2) (T := TX2) (N := 17) hx hb hts hiX2 hown hK hP 2 rfl rfl 5 (by decide) hf28 (fun _ h9 => h9) rfl dX0_keep_59 ?_
  refine gast hx hb hK hP hD hS 1 rfl ((Wn + 1) % 16 * 6) (rfl) (by omega) (by decide) dX0_keep_62 (fun H locs hP hD hS => ?_)
  have hP : va_P E.1 vwCl (wH E Cp (nI (min (Sn + 1) 16)) (nI ((Wn + 1) % 16)) (upd pf ((Wn + 1) % 16 * 6) (z 17)) ++ (wP E Bp g z lo up pk)) H := hP
  have hD : va_D _ (wH E Cp (nI (min (Sn + 1) 16)) (nI ((Wn + 1) % 16)) (upd pf ((Wn + 1) % 16 * 6) (z 17)) ++ (wP E Bp g z lo up pk)) := hD
  refine lv_aload_n hx hb dX0_keep_63 rfl (lv_at hl 1 rfl) ?_
  refine va_get (D := E.1) (ci := 0) (v := .ref (Cp 1)) (C := RX0) (T := TX0) (N := 3) hx hb hts hiX0 hown hK hP 0 rfl rfl 0 (by decide) hf9 (fun _ h9 => h9) rfl dX0_keep_64 ?_
  refine lv_iload_n hx hb dX0_keep_67 rfl (lv_at hl 0 rfl) ?_
  refine lv_iconst (v := 1) hx hb dX0_keep_68 (by decide) ?_
  refine lv_iadd hx hb dX0_keep_69 ?_
  refine lv_aload_n hx hb dX0_keep_70 rfl (lv_at hl 2 rfl) ?_
  refine va_get (D := E.1) (ci := 2) (v := .int (z 22)) (C := RX2) (T := TX2) (N := 17) hx hb hts hiX2 hown hK hP 2 rfl rfl 12 (by decide) hf33 (fun _ h9 => h9) rfl dX0_keep_71 ?_
  refine gast hx hb hK hP hD hS 1 rfl ((Wn + 1) % 16 * 6 + 1) (nI_1 _) (by omega) (by decide) dX0_keep_74 (fun H locs hP hD hS => ?_)
  have hP : va_P E.1 vwCl (wH E Cp (nI (min (Sn + 1) 16)) (nI ((Wn + 1) % 16)) (upd (upd pf ((Wn + 1) % 16 * 6) (z 17)) ((Wn + 1) % 16 * 6 + 1) (z 22)) ++ (wP E Bp g z lo up pk)) H := hP
  have hD : va_D _ (wH E Cp (nI (min (Sn + 1) 16)) (nI ((Wn + 1) % 16)) (upd (upd pf ((Wn + 1) % 16 * 6) (z 17)) ((Wn + 1) % 16 * 6 + 1) (z 22)) ++ (wP E Bp g z lo up pk)) := hD
  refine lv_aload_n hx hb dX0_keep_75 rfl (lv_at hl 1 rfl) ?_
  refine va_get (D := E.1) (ci := 0) (v := .ref (Cp 1)) (C := RX0) (T := TX0) (N := 3) hx hb hts hiX0 hown hK hP 0 rfl rfl 0 (by decide) hf9 (fun _ h9 => h9) rfl dX0_keep_76 ?_
  refine lv_iload_n hx hb dX0_keep_79 rfl (lv_at hl 0 rfl) ?_
  refine lv_iconst (v := 2) hx hb dX0_keep_80 (by decide) ?_
  refine lv_iadd hx hb dX0_keep_81 ?_
  refine lv_aload_n hx hb dX0_keep_82 rfl (lv_at hl 2 rfl) ?_
  refine gvMi (wH E Cp (nI (min (Sn + 1) 16)) (nI ((Wn + 1) % 16)) (upd (upd pf ((Wn + 1) % 16 * 6) (z 17)) ((Wn + 1) % 16 * 6 + 1) (z 22))) ([] : va_W) (As := []) (rest := [.int ((nI ((Wn + 1) % 16 * 6)) + 2), .ref (Cp 1)]) ⟨hx, hb, hml, hown, hts⟩ (c_X2_ripple l E Bp g z lo up pk) (cwV 0 hts gX0_keep_X2_ripple rfl rfl rfl (by decide +kernel) ⟨Nat.le_of_ble_eq_true rfl, Nat.le_of_ble_eq_true rfl⟩) (va_recv hK hP (ci := 2) (q0 := 2) rfl rfl) hP hK hD hN hS hA rfl hl.1 rfl (Nat.le_of_ble_eq_true rfl) dX0_keep_83 ⟨Nat.le_refl _, Nat.le_refl _⟩ (fun H locs hP hD hS => ?_)
  have hP : va_P E.1 vwCl (wH E Cp (nI (min (Sn + 1) 16)) (nI ((Wn + 1) % 16)) (upd (upd pf ((Wn + 1) % 16 * 6) (z 17)) ((Wn + 1) % 16 * 6 + 1) (z 22)) ++ (wP E Bp g z lo up pk)) H := hP
  have hD : va_D _ (wH E Cp (nI (min (Sn + 1) 16)) (nI ((Wn + 1) % 16)) (upd (upd pf ((Wn + 1) % 16 * 6) (z 17)) ((Wn + 1) % 16 * 6 + 1) (z 22)) ++ (wP E Bp g z lo up pk)) := hD
  refine gast hx hb hK hP hD hS 1 rfl ((Wn + 1) % 16 * 6 + 2) (nI_add _ 2) (by omega) (by decide) dX0_keep_86 (fun H locs hP hD hS => ?_)
  have hP : va_P E.1 vwCl (wH E Cp (nI (min (Sn + 1) 16)) (nI ((Wn + 1) % 16)) (upd (upd (upd pf ((Wn + 1) % 16 * 6) (z 17)) ((Wn + 1) % 16 * 6 + 1) (z 22)) ((Wn + 1) % 16 * 6 + 2) (up - lo)) ++ (wP E Bp g z lo up pk)) H := hP
  have hD : va_D _ (wH E Cp (nI (min (Sn + 1) 16)) (nI ((Wn + 1) % 16)) (upd (upd (upd pf ((Wn + 1) % 16 * 6) (z 17)) ((Wn + 1) % 16 * 6 + 1) (z 22)) ((Wn + 1) % 16 * 6 + 2) (up - lo)) ++ (wP E Bp g z lo up pk)) := hD
  refine lv_aload_n hx hb dX0_keep_87 rfl (lv_at hl 1 rfl) ?_
  refine va_get (D := E.1) (ci := 0) (v := .ref (Cp 1)) (C := RX0) (T := TX0) (N := 3) hx hb hts hiX0 hown hK hP 0 rfl rfl 0 (by decide) hf9 (fun _ h9 => h9) rfl dX0_keep_88 ?_
  refine lv_iload_n hx hb dX0_keep_91 rfl (lv_at hl 0 rfl) ?_
  refine lv_iconst (v := 3) hx hb dX0_keep_92 (by decide) ?_
  refine lv_iadd hx hb dX0_keep_93 ?_
  refine lv_aload_n hx hb dX0_keep_94 rfl (lv_at hl 2 rfl) ?_
  refine va_get (D := E.1) (ci := 2) (v := .int (z 16)) (C := RX2) (T := TX2) (N := 17) hx hb hts hiX2 hown hK hP 2 rfl rfl 3 (by decide) hf40 (fun _ h9 => h9) rfl dX0_keep_95 ?_
  refine gast hx hb hK hP hD hS 1 rfl ((Wn + 1) % 16 * 6 + 3) (nI_add _ 3) (by omega) (by decide) dX0_keep_98 (fun H locs hP hD hS => ?_)
  have hP : va_P E.1 vwCl (wH E Cp (nI (min (Sn + 1) 16)) (nI ((Wn + 1) % 16)) (upd (upd (upd (upd pf ((Wn + 1) % 16 * 6) (z 17)) ((Wn + 1) % 16 * 6 + 1) (z 22)) ((Wn + 1) % 16 * 6 + 2) (up - lo)) ((Wn + 1) % 16 * 6 + 3) (z 16)) ++ (wP E Bp g z lo up pk)) H := hP
  have hD : va_D _ (wH E Cp (nI (min (Sn + 1) 16)) (nI ((Wn + 1) % 16)) (upd (upd (upd (upd pf ((Wn + 1) % 16 * 6) (z 17)) ((Wn + 1) % 16 * 6 + 1) (z 22)) ((Wn + 1) % 16 * 6 + 2) (up - lo)) ((Wn + 1) % 16 * 6 + 3) (z 16)) ++ (wP E Bp g z lo up pk)) := hD
  refine lv_aload_n hx hb dX0_keep_99 rfl (lv_at hl 1 rfl) ?_
  refine va_get (D := E.1) (ci := 0) (v := .ref (Cp 1)) (C := RX0) (T := TX0) (N := 3) hx hb hts hiX0 hown hK hP 0 rfl rfl 0 (by decide) hf9 (fun _ h9 => h9) rfl dX0_keep_100 ?_
  refine lv_iload_n hx hb dX0_keep_103 rfl (lv_at hl 0 rfl) ?_
  refine lv_iconst (v := 4) hx hb dX0_keep_104 (by decide) ?_
  refine lv_iadd hx hb dX0_keep_105 ?_
  refine lv_aload_n hx hb dX0_keep_106 rfl (lv_at hl 2 rfl) ?_
  refine va_get (D := E.1) (ci := 2) (v := .int (z 20)) (C := RX2) (T := TX2) (N := 17) hx hb hts hiX2 hown hK hP 2 rfl rfl 4 (by decide) hf43 (fun _ h9 => h9) rfl dX0_keep_107 ?_
  refine gast hx hb hK hP hD hS 1 rfl ((Wn + 1) % 16 * 6 + 4) (nI_add _ 4) (by omega) (by decide) dX0_keep_110 (fun H locs hP hD hS => ?_)
  have hP : va_P E.1 vwCl (wH E Cp (nI (min (Sn + 1) 16)) (nI ((Wn + 1) % 16)) (upd (upd (upd (upd (upd pf ((Wn + 1) % 16 * 6) (z 17)) ((Wn + 1) % 16 * 6 + 1) (z 22)) ((Wn + 1) % 16 * 6 + 2) (up - lo)) ((Wn + 1) % 16 * 6 + 3) (z 16)) ((Wn + 1) % 16 * 6 + 4) (z 20)) ++ (wP E Bp g z lo up pk)) H := hP
  have hD : va_D _ (wH E Cp (nI (min (Sn + 1) 16)) (nI ((Wn + 1) % 16)) (upd (upd (upd (upd (upd pf ((Wn + 1) % 16 * 6) (z 17)) ((Wn + 1) % 16 * 6 + 1) (z 22)) ((Wn + 1) % 16 * 6 + 2) (up - lo)) ((Wn + 1) % 16 * 6 + 3) (z 16)) ((Wn + 1) % 16 * 6 + 4) (z 20)) ++ (wP E Bp g z lo up pk)) := hD
  refine lv_aload_n hx hb dX0_keep_111 rfl (lv_at hl 1 rfl) ?_
  refine va_get (D := E.1) (ci := 0) (v := .ref (Cp 1)) (C := RX0) (T := TX0) (N := 3) hx hb hts hiX0 hown hK hP 0 rfl rfl 0 (by decide) hf9 (fun _ h9 => h9) rfl dX0_keep_112 ?_
  refine lv_iload_n hx hb dX0_keep_115 rfl (lv_at hl 0 rfl) ?_
  refine lv_iconst (v := 5) hx hb dX0_keep_116 (by decide) ?_
  refine lv_iadd hx hb dX0_keep_117 ?_
  refine lv_iload_n hx hb dX0_keep_118 rfl (lv_at hl 3 rfl) ?_
  refine gast hx hb hK hP hD hS 1 rfl ((Wn + 1) % 16 * 6 + 5) (nI_add _ 5) (by omega) (by decide) dX0_keep_119 (fun H locs hP hD hS => ?_)
  have hP : va_P E.1 vwCl (wH E Cp (nI (min (Sn + 1) 16)) (nI ((Wn + 1) % 16)) (upd (upd (upd (upd (upd (upd pf ((Wn + 1) % 16 * 6) (z 17)) ((Wn + 1) % 16 * 6 + 1) (z 22)) ((Wn + 1) % 16 * 6 + 2) (up - lo)) ((Wn + 1) % 16 * 6 + 3) (z 16)) ((Wn + 1) % 16 * 6 + 4) (z 20)) ((Wn + 1) % 16 * 6 + 5) v2) ++ (wP E Bp g z lo up pk)) H := hP
  have hD : va_D _ (wH E Cp (nI (min (Sn + 1) 16)) (nI ((Wn + 1) % 16)) (upd (upd (upd (upd (upd (upd pf ((Wn + 1) % 16 * 6) (z 17)) ((Wn + 1) % 16 * 6 + 1) (z 22)) ((Wn + 1) % 16 * 6 + 2) (up - lo)) ((Wn + 1) % 16 * 6 + 3) (z 16)) ((Wn + 1) % 16 * 6 + 4) (z 20)) ((Wn + 1) % 16 * 6 + 5) v2) ++ (wP E Bp g z lo up pk)) := hD
  exact gretv hx hb hr hlocks hP hD hS (rfl) dX0_keep_120

set_option maxHeartbeats 4000000 in
set_option maxRecDepth 100000 in
theorem c_X0_part (l : Launch) (E : EE) (Cp : Nat → Nat) (sz nw : Int32) (pf : Nat → Int32) (Wn i0 j0 : Nat) (hW : nw = nI Wn) (hW6 : Wn < 16) (hi : i0 ≤ 16) (hj : j0 < 6) : GM l yX0_part wsX0_part 0 0 E (wH E Cp sz nw pf) [.ref (Cp 0), .int (nI i0), .int (nI j0)] (wH E Cp sz nw pf) (some (.int (pf ((Wn + 16 - i0) % 16 * 6 + j0)))) := by
  intro sz
  refine Met.ofW (cc := cX0_part) (maxL := 5) (ret := (some .int)) (by decide) rfl ?_
  intro p e s m args below meth c s₁ B hml hv
  obtain ⟨rfl, rfl, hP, hK, hD0, hN⟩ := hv
  have hx := B.exec
  have hb := B.bytes
  have hr := B.returns
  have hts := atoms_spec (ws := wsX0_part) B.pre
  have hown : s.vm.findClass RX0 = some m.cls := findClass_of_methodNamed B.named
  have hlocks := B.notSynchronized
  have hD := hD0.self (sz := s.heap.size)
  have hA : ∀ q : Nat, s.heap.size ≤ q → va_A (wH E Cp sz nw pf) s.heap.size q := fun q h => Or.inr h
  have hS : va_S (va_A (wH E Cp sz nw pf) s.heap.size) s.heap s.heap [] := va_S.rf
  have hl := lv_entry ([.ref (Cp 0), .int (nI i0), .int (nI j0)]) (n := 5) (Nat.le_of_ble_eq_true rfl)
  rw [lg_entry_eq]
  generalize (lg_sl ([.ref (Cp 0), .int (nI i0), .int (nI j0)]) ++ List.replicate (5 - (lg_sl ([.ref (Cp 0), .int (nI i0), .int (nI j0)])).length) Slot.unset).toArray = ls at hl ⊢
  have hl : lv_has ls 5 [(0, .ref (Cp 0)), (1, .int (nI i0)), (2, .int (nI j0))] := hl
  have hf19 := hts (.fieldLink RX0 19 "PhaseConverter$History" "newest" "I") (List.mem_of_getElem? (i := 1) rfl)
  have hf9 := hts (.fieldLink RX0 9 "PhaseConverter$History" "parts" "[I") (List.mem_of_getElem? (i := 2) rfl)
  have hiX0 : ∀ w ∈ u_ws RX0 TX0 3, w ∈ wsX0_part := memIn [3, 4, 5] rfl
  refine lv_aload_n hx hb dX0_part_0 rfl (lv_at hl 0 rfl) ?_
  refine va_get (D := E.1) (ci := 0) (v := .int nw) (C := RX0) (T := TX0) (N := 3) hx hb hts hiX0 hown hK hP 0 rfl rfl 2 (by decide) hf19 (fun _ h9 => h9) rfl dX0_part_1 ?_
  refine lv_iload_n hx hb dX0_part_4 rfl (lv_at hl 1 rfl) ?_
  refine lv_isub hx hb dX0_part_5 ?_
  refine lv_bipush (v := 16) hx hb dX0_part_6 (by decide) ?_
  refine lv_iadd hx hb dX0_part_8 ?_
  refine lv_bipush (v := 16) hx hb dX0_part_9 (by decide) ?_
  refine lv_irem hx hb dX0_part_11 (by decide) ?_
  refine W.eq (g2 := F0 m 12 ls [.int (nI ((Wn + 16 - i0) % 16))]) (by rw [pt_ix hW hW6 hi]) ?_
  refine lv_istore_n (lv' := [(3, .int (nI ((Wn + 16 - i0) % 16))), (0, .ref (Cp 0)), (1, .int (nI i0)), (2, .int (nI j0))]) hx hb dX0_part_12 rfl hl (by decide) rfl (fun ls hl => ?_)
  refine lv_iload_n hx hb dX0_part_13 rfl (lv_at hl 0 rfl) ?_
  refine lv_bipush (v := 6) hx hb dX0_part_14 (by decide) ?_
  refine lv_imul hx hb dX0_part_16 ?_
  refine lv_iload_n hx hb dX0_part_17 rfl (lv_at hl 3 rfl) ?_
  refine lv_iadd hx hb dX0_part_18 ?_
  refine W.eq (g2 := F0 m 19 ls [.int (nI ((Wn + 16 - i0) % 16 * 6 + j0))]) (by rw [pt_at]) ?_
  refine lv_istore (lv' := [(4, .int (nI ((Wn + 16 - i0) % 16 * 6 + j0))), (3, .int (nI ((Wn + 16 - i0) % 16))), (0, .ref (Cp 0)), (1, .int (nI i0)), (2, .int (nI j0))]) hx hb dX0_part_19 hl (by decide) rfl (fun ls hl => ?_)
  refine lv_iload hx hb dX0_part_21 (lv_at hl 0 rfl) ?_
  refine lv_if_lt (tgt := 46) hx hb dX0_part_23 (by decide) (fun c_23 => absurd c_23 (nI_pos (by omega))) (fun c_23 => ?_)
  refine lv_iload hx hb dX0_part_26 (lv_at hl 0 rfl) ?_
  refine lv_aload_n hx hb dX0_part_28 rfl (lv_at hl 2 rfl) ?_
  refine va_get (D := E.1) (ci := 0) (v := .ref (Cp 1)) (C := RX0) (T := TX0) (N := 3) hx hb hts hiX0 hown hK hP 0 rfl rfl 0 (by decide) hf9 (fun _ h9 => h9) rfl dX0_part_29 ?_
  refine va_alen hx hb hK hP 1 0 rfl rfl (v := 96) rfl dX0_part_32 ?_
  refine lv_icmp_ge (tgt := 46) hx hb dX0_part_33 (by decide) (fun c_33 => absurd c_33 (nI_ge (b := 96) (by omega) (by omega))) (fun c_33 => ?_)
  refine lv_aload_n hx hb dX0_part_36 rfl (lv_at hl 2 rfl) ?_
  refine va_get (D := E.1) (ci := 0) (v := .ref (Cp 1)) (C := RX0) (T := TX0) (N := 3) hx hb hts hiX0 hown hK hP 0 rfl rfl 0 (by decide) hf9 (fun _ h9 => h9) rfl dX0_part_37 ?_
  refine lv_iload hx hb dX0_part_40 (lv_at hl 0 rfl) ?_
  refine gald (x := pf ((Wn + 16 - i0) % 16 * 6 + j0)) hx hb hK hP 1 rfl ((Wn + 16 - i0) % 16 * 6 + j0) (rfl) (by omega) (by decide) rfl dX0_part_42 ?_
  refine lv_goto (tgt := 47) hx hb dX0_part_43 (by decide) ?_
  exact greti hx hb hr hlocks hP hD hS (rfl) (rfl) dX0_part_47

set_option maxHeartbeats 4000000 in
set_option maxRecDepth 100000 in
theorem c_X3_codeAt (l : Launch) (E : EE) (Rp : Nat → Nat) (ln : Int32) (cd : Nat → Int32) (k0 : Nat) (hk : k0 < 50) : GM l yX3_codeAt wsX3_codeAt 0 0 E (wR E Rp ln cd) [.ref (Rp 0), .int (nI k0)] (wR E Rp ln cd) (some (.int (cd k0))) := by
  intro sz
  refine Met.ofW (cc := cX3_codeAt) (maxL := 2) (ret := (some .int)) (by decide) rfl ?_
  intro p e s m args below meth c s₁ B hml hv
  obtain ⟨rfl, rfl, hP, hK, hD0, hN⟩ := hv
  have hx := B.exec
  have hb := B.bytes
  have hr := B.returns
  have hts := atoms_spec (ws := wsX3_codeAt) B.pre
  have hown : s.vm.findClass RX3 = some m.cls := findClass_of_methodNamed B.named
  have hlocks := B.notSynchronized
  have hD := hD0.self (sz := s.heap.size)
  have hA : ∀ q : Nat, s.heap.size ≤ q → va_A (wR E Rp ln cd) s.heap.size q := fun q h => Or.inr h
  have hS : va_S (va_A (wR E Rp ln cd) s.heap.size) s.heap s.heap [] := va_S.rf
  have hl := lv_entry ([.ref (Rp 0), .int (nI k0)]) (n := 2) (Nat.le_of_ble_eq_true rfl)
  rw [lg_entry_eq]
  generalize (lg_sl ([.ref (Rp 0), .int (nI k0)]) ++ List.replicate (2 - (lg_sl ([.ref (Rp 0), .int (nI k0)])).length) Slot.unset).toArray = ls at hl ⊢
  have hl : lv_has ls 2 [(0, .ref (Rp 0)), (1, .int (nI k0))] := hl
  have hf9 := hts (.fieldLink RX3 9 "PhaseConverter$Program" "codes" "[I") (List.mem_of_getElem? (i := 1) rfl)
  have hiX3 : ∀ w ∈ u_ws RX3 TX3 2, w ∈ wsX3_codeAt := memIn [2, 3] rfl
  refine lv_iload_n hx hb dX3_codeAt_0 rfl (lv_at hl 1 rfl) ?_
  refine lv_if_lt (tgt := 22) hx hb dX3_codeAt_1 (by decide) (fun c_1 => absurd c_1 (nI_pos (by omega))) (fun c_1 => ?_)
  refine lv_iload_n hx hb dX3_codeAt_4 rfl (lv_at hl 1 rfl) ?_
  refine lv_aload_n hx hb dX3_codeAt_5 rfl (lv_at hl 0 rfl) ?_
  refine va_get (D := E.1) (ci := 3) (v := .ref (Rp 1)) (C := RX3) (T := TX3) (N := 2) hx hb hts hiX3 hown hK hP 0 rfl rfl 0 (by decide) hf9 (fun _ h9 => h9) rfl dX3_codeAt_6 ?_
  refine va_alen hx hb hK hP 1 0 rfl rfl (v := 50) rfl dX3_codeAt_9 ?_
  refine lv_icmp_ge (tgt := 22) hx hb dX3_codeAt_10 (by decide) (fun c_10 => absurd c_10 (nI_ge (b := 50) (by omega) (by omega))) (fun c_10 => ?_)
  refine lv_aload_n hx hb dX3_codeAt_13 rfl (lv_at hl 0 rfl) ?_
  refine va_get (D := E.1) (ci := 3) (v := .ref (Rp 1)) (C := RX3) (T := TX3) (N := 2) hx hb hts hiX3 hown hK hP 0 rfl rfl 0 (by decide) hf9 (fun _ h9 => h9) rfl dX3_codeAt_14 ?_
  refine lv_iload_n hx hb dX3_codeAt_17 rfl (lv_at hl 1 rfl) ?_
  refine gald (x := cd k0) hx hb hK hP 1 rfl k0 (rfl) (by omega) (by decide) rfl dX3_codeAt_18 ?_
  refine lv_goto (tgt := 23) hx hb dX3_codeAt_19 (by decide) ?_
  exact greti hx hb hr hlocks hP hD hS (rfl) (rfl) dX3_codeAt_23

set_option maxHeartbeats 4000000 in
set_option maxRecDepth 100000 in
theorem c_X3_take (l : Launch) (E : EE) (Rp : Nat → Nat) (ln : Int32) (cd : Nat → Int32) (v1 : Int32) (L : Nat) (hL : ln = nI L) (hL5 : L ≤ 50) : GM l yX3_take wsX3_take 0 0 E (wR E Rp ln cd) [.ref (Rp 0), .int v1] (wR E Rp (if ln < 50 then ln + 1 else ln) (if ln < 50 then upd cd L v1 else cd)) (some (.int (if ln < 50 then 1 else 0))) := by
  intro sz
  refine Met.ofW (cc := cX3_take) (maxL := 2) (ret := (some .boolean)) (by decide) rfl ?_
  intro p e s m args below meth c s₁ B hml hv
  obtain ⟨rfl, rfl, hP, hK, hD0, hN⟩ := hv
  have hx := B.exec
  have hb := B.bytes
  have hr := B.returns
  have hts := atoms_spec (ws := wsX3_take) B.pre
  have hown : s.vm.findClass RX3 = some m.cls := findClass_of_methodNamed B.named
  have hlocks := B.notSynchronized
  have hD := hD0.self (sz := s.heap.size)
  have hA : ∀ q : Nat, s.heap.size ≤ q → va_A (wR E Rp ln cd) s.heap.size q := fun q h => Or.inr h
  have hS : va_S (va_A (wR E Rp ln cd) s.heap.size) s.heap s.heap [] := va_S.rf
  have hl := lv_entry ([.ref (Rp 0), .int v1]) (n := 2) (Nat.le_of_ble_eq_true rfl)
  rw [lg_entry_eq]
  generalize (lg_sl ([.ref (Rp 0), .int v1]) ++ List.replicate (2 - (lg_sl ([.ref (Rp 0), .int v1])).length) Slot.unset).toArray = ls at hl ⊢
  have hl : lv_has ls 2 [(0, .ref (Rp 0)), (1, .int v1)] := hl
  have hf15 := hts (.fieldLink RX3 15 "PhaseConverter$Program" "length" "I") (List.mem_of_getElem? (i := 1) rfl)
  have hf9 := hts (.fieldLink RX3 9 "PhaseConverter$Program" "codes" "[I") (List.mem_of_getElem? (i := 2) rfl)
  have hiX3 : ∀ w ∈ u_ws RX3 TX3 2, w ∈ wsX3_take := memIn [3, 4] rfl
  refine lv_aload_n hx hb dX3_take_0 rfl (lv_at hl 0 rfl) ?_
  refine va_get (D := E.1) (ci := 3) (v := .int ln) (C := RX3) (T := TX3) (N := 2) hx hb hts hiX3 hown hK hP 0 rfl rfl 1 (by decide) hf15 (fun _ h9 => h9) rfl dX3_take_1 ?_
  refine lv_if_lt (tgt := 19) hx hb dX3_take_4 (by decide) (fun c_4 => absurd c_4 (by rw [hL]; exact nI_pos (by omega))) (fun c_4 => ?_)
  refine lv_aload_n hx hb dX3_take_7 rfl (lv_at hl 0 rfl) ?_
  refine va_get (D := E.1) (ci := 3) (v := .int ln) (C := RX3) (T := TX3) (N := 2) hx hb hts hiX3 hown hK hP 0 rfl rfl 1 (by decide) hf15 (fun _ h9 => h9) rfl dX3_take_8 ?_
  refine lv_aload_n hx hb dX3_take_11 rfl (lv_at hl 0 rfl) ?_
  refine va_get (D := E.1) (ci := 3) (v := .ref (Rp 1)) (C := RX3) (T := TX3) (N := 2) hx hb hts hiX3 hown hK hP 0 rfl rfl 0 (by decide) hf9 (fun _ h9 => h9) rfl dX3_take_12 ?_
  refine va_alen hx hb hK hP 1 0 rfl rfl (v := 50) rfl dX3_take_15 ?_
  refine lv_icmp_lt (tgt := 21) hx hb dX3_take_16 (by decide) (fun c_16 => ?_) (fun c_16 => ?_)
  · have hLt : L < 50 := by rcases Nat.lt_or_ge L 50 with q | q; exact q; exact absurd c_16 (by rw [hL]; exact nI_nlt (b := 50) q (by omega))
    refine lv_aload_n hx hb dX3_take_21 rfl (lv_at hl 0 rfl) ?_
    refine va_get (D := E.1) (ci := 3) (v := .ref (Rp 1)) (C := RX3) (T := TX3) (N := 2) hx hb hts hiX3 hown hK hP 0 rfl rfl 0 (by decide) hf9 (fun _ h9 => h9) rfl dX3_take_22 ?_
    refine lv_aload_n hx hb dX3_take_25 rfl (lv_at hl 0 rfl) ?_
    refine va_get (D := E.1) (ci := 3) (v := .int ln) (C := RX3) (T := TX3) (N := 2) hx hb hts hiX3 hown hK hP 0 rfl rfl 1 (by decide) hf15 (fun _ h9 => h9) rfl dX3_take_26 ?_
    refine lv_iload_n hx hb dX3_take_29 rfl (lv_at hl 1 rfl) ?_
    refine gast hx hb hK hP hD hS 1 rfl L (hL) (by omega) (by decide) dX3_take_30 (fun H locs hP hD hS => ?_)
    have hP : va_P E.1 vwCl (wR E Rp ln (upd cd L v1)) H := hP
    have hD : va_D _ (wR E Rp ln (upd cd L v1)) := hD
    refine lv_aload_n hx hb dX3_take_31 rfl (lv_at hl 0 rfl) ?_
    refine lv_dup hx hb dX3_take_32 rfl ?_
    refine va_get (D := E.1) (ci := 3) (v := .int ln) (C := RX3) (T := TX3) (N := 2) hx hb hts hiX3 hown hK hP 0 rfl rfl 1 (by decide) hf15 (fun _ h9 => h9) rfl dX3_take_33 ?_
    refine lv_iconst (v := 1) hx hb dX3_take_36 (by decide) ?_
    refine lv_iadd hx hb dX3_take_37 ?_
    refine va_put (D := E.1) (ci := 3) (v := .int (ln + 1)) (ty := .int) (C := RX3) (T := TX3) (N := 2) hx hb hts hiX3 tyX3 tyX3_ok nmX3 hown hK hP hD hS 0 rfl rfl 1 (by decide) hf15 (fun _ h9 => h9) rfl (by decide +kernel) rfl rfl (Nat.le_of_ble_eq_true rfl) dX3_take_38 (fun H locs hP hD hS => ?_)
    have hP : va_P E.1 vwCl (wR E Rp (ln + 1) (upd cd L v1)) H := hP
    have hD : va_D _ (wR E Rp (ln + 1) (upd cd L v1)) := hD
    refine lv_iconst (v := 1) hx hb dX3_take_41 (by decide) ?_
    exact gretz hx hb hr hlocks hP hD hS (by first | exact Or.inl rfl | exact Or.inr rfl) (by simp only [if_neg c_4, if_pos c_16]) (by simp only [if_neg c_4, if_pos c_16]) dX3_take_42
  · refine lv_iconst (v := 0) hx hb dX3_take_19 (by decide) ?_
    exact gretz hx hb hr hlocks hP hD hS (by first | exact Or.inl rfl | exact Or.inr rfl) (by simp only [if_neg c_4, if_neg c_16]) (by simp only [if_neg c_4, if_neg c_16]) dX3_take_20

set_option maxHeartbeats 4000000 in
set_option maxRecDepth 100000 in
theorem c_X3_stateAfterLetter (l : Launch) (E : EE) (v0 : Int32) : GM l yX3_stateAfterLetter wsX3_stateAfterLetter 0 0 E ([]) [.int v0] ([]) (some (.int (lettI v0))) := by
  intro sz
  refine Met.ofW (cc := cX3_stateAfterLetter) (maxL := 1) (ret := (some .int)) (by decide) rfl ?_
  intro p e s m args below meth c s₁ B hml hv
  obtain ⟨rfl, rfl, hP, hK, hD0, hN⟩ := hv
  have hx := B.exec
  have hb := B.bytes
  have hr := B.returns
  have hts := atoms_spec (ws := wsX3_stateAfterLetter) B.pre
  have hown : s.vm.findClass RX3 = some m.cls := findClass_of_methodNamed B.named
  have hlocks := B.notSynchronized
  have hD := hD0.self (sz := s.heap.size)
  have hA : ∀ q : Nat, s.heap.size ≤ q → va_A ([]) s.heap.size q := fun q h => Or.inr h
  have hS : va_S (va_A ([]) s.heap.size) s.heap s.heap [] := va_S.rf
  have hl := lv_entry ([.int v0]) (n := 1) (Nat.le_of_ble_eq_true rfl)
  rw [lg_entry_eq]
  generalize (lg_sl ([.int v0]) ++ List.replicate (1 - (lg_sl ([.int v0])).length) Slot.unset).toArray = ls at hl ⊢
  have hl : lv_has ls 1 [(0, .int v0)] := hl
  refine lv_iload_n hx hb dX3_stateAfterLetter_0 rfl (lv_at hl 0 rfl) ?_
  by_cases hout : v0.toInt < 99 ∨ 120 < v0.toInt
  · refine lv_tableOut (tgt := 108) hx hb dX3_stateAfterLetter_1 hout (by decide) ?_
    refine lv_iconst (v := (-1)) hx hb dX3_stateAfterLetter_108 (by decide) ?_
    exact greti hx hb hr hlocks hP hD hS ((lettI_out hout).symm) (rfl) dX3_stateAfterLetter_109
  obtain ⟨k9, hk9, e9⟩ := lettI_in hout
  subst e9
  obtain rfl | rfl | rfl | rfl | rfl | rfl | rfl | rfl | rfl | rfl | rfl | rfl | rfl | rfl | rfl | rfl | rfl | rfl | rfl | rfl | rfl | rfl : k9 = 0 ∨ k9 = 1 ∨ k9 = 2 ∨ k9 = 3 ∨ k9 = 4 ∨ k9 = 5 ∨ k9 = 6 ∨ k9 = 7 ∨ k9 = 8 ∨ k9 = 9 ∨ k9 = 10 ∨ k9 = 11 ∨ k9 = 12 ∨ k9 = 13 ∨ k9 = 14 ∨ k9 = 15 ∨ k9 = 16 ∨ k9 = 17 ∨ k9 = 18 ∨ k9 = 19 ∨ k9 = 20 ∨ k9 = 21 := by omega
  · refine lv_tableIn (off := 105) (tgt := 106) hx hb dX3_stateAfterLetter_1 (by decide) (by decide) (by decide) (by decide) ?_
    refine lv_iconst (v := 1) hx hb dX3_stateAfterLetter_106 (by decide) ?_
    exact greti hx hb hr hlocks hP hD hS (by decide) (rfl) dX3_stateAfterLetter_107
  · refine lv_tableIn (off := 107) (tgt := 108) hx hb dX3_stateAfterLetter_1 (by decide) (by decide) (by decide) (by decide) ?_
    refine lv_iconst (v := (-1)) hx hb dX3_stateAfterLetter_108 (by decide) ?_
    exact greti hx hb hr hlocks hP hD hS (by decide) (rfl) dX3_stateAfterLetter_109
  · refine lv_tableIn (off := 107) (tgt := 108) hx hb dX3_stateAfterLetter_1 (by decide) (by decide) (by decide) (by decide) ?_
    refine lv_iconst (v := (-1)) hx hb dX3_stateAfterLetter_108 (by decide) ?_
    exact greti hx hb hr hlocks hP hD hS (by decide) (rfl) dX3_stateAfterLetter_109
  · refine lv_tableIn (off := 107) (tgt := 108) hx hb dX3_stateAfterLetter_1 (by decide) (by decide) (by decide) (by decide) ?_
    refine lv_iconst (v := (-1)) hx hb dX3_stateAfterLetter_108 (by decide) ?_
    exact greti hx hb hr hlocks hP hD hS (by decide) (rfl) dX3_stateAfterLetter_109
  · refine lv_tableIn (off := 107) (tgt := 108) hx hb dX3_stateAfterLetter_1 (by decide) (by decide) (by decide) (by decide) ?_
    refine lv_iconst (v := (-1)) hx hb dX3_stateAfterLetter_108 (by decide) ?_
    exact greti hx hb hr hlocks hP hD hS (by decide) (rfl) dX3_stateAfterLetter_109
  · refine lv_tableIn (off := 107) (tgt := 108) hx hb dX3_stateAfterLetter_1 (by decide) (by decide) (by decide) (by decide) ?_
    refine lv_iconst (v := (-1)) hx hb dX3_stateAfterLetter_108 (by decide) ?_
    exact greti hx hb hr hlocks hP hD hS (by decide) (rfl) dX3_stateAfterLetter_109
  · refine lv_tableIn (off := 105) (tgt := 106) hx hb dX3_stateAfterLetter_1 (by decide) (by decide) (by decide) (by decide) ?_
    refine lv_iconst (v := 1) hx hb dX3_stateAfterLetter_106 (by decide) ?_
    exact greti hx hb hr hlocks hP hD hS (by decide) (rfl) dX3_stateAfterLetter_107
  · refine lv_tableIn (off := 107) (tgt := 108) hx hb dX3_stateAfterLetter_1 (by decide) (by decide) (by decide) (by decide) ?_
    refine lv_iconst (v := (-1)) hx hb dX3_stateAfterLetter_108 (by decide) ?_
    exact greti hx hb hr hlocks hP hD hS (by decide) (rfl) dX3_stateAfterLetter_109
  · refine lv_tableIn (off := 107) (tgt := 108) hx hb dX3_stateAfterLetter_1 (by decide) (by decide) (by decide) (by decide) ?_
    refine lv_iconst (v := (-1)) hx hb dX3_stateAfterLetter_108 (by decide) ?_
    exact greti hx hb hr hlocks hP hD hS (by decide) (rfl) dX3_stateAfterLetter_109
  · refine lv_tableIn (off := 105) (tgt := 106) hx hb dX3_stateAfterLetter_1 (by decide) (by decide) (by decide) (by decide) ?_
    refine lv_iconst (v := 1) hx hb dX3_stateAfterLetter_106 (by decide) ?_
    exact greti hx hb hr hlocks hP hD hS (by decide) (rfl) dX3_stateAfterLetter_107
  · refine lv_tableIn (off := 107) (tgt := 108) hx hb dX3_stateAfterLetter_1 (by decide) (by decide) (by decide) (by decide) ?_
    refine lv_iconst (v := (-1)) hx hb dX3_stateAfterLetter_108 (by decide) ?_
    exact greti hx hb hr hlocks hP hD hS (by decide) (rfl) dX3_stateAfterLetter_109
  · refine lv_tableIn (off := 107) (tgt := 108) hx hb dX3_stateAfterLetter_1 (by decide) (by decide) (by decide) (by decide) ?_
    refine lv_iconst (v := (-1)) hx hb dX3_stateAfterLetter_108 (by decide) ?_
    exact greti hx hb hr hlocks hP hD hS (by decide) (rfl) dX3_stateAfterLetter_109
  · refine lv_tableIn (off := 107) (tgt := 108) hx hb dX3_stateAfterLetter_1 (by decide) (by decide) (by decide) (by decide) ?_
    refine lv_iconst (v := (-1)) hx hb dX3_stateAfterLetter_108 (by decide) ?_
    exact greti hx hb hr hlocks hP hD hS (by decide) (rfl) dX3_stateAfterLetter_109
  · refine lv_tableIn (off := 107) (tgt := 108) hx hb dX3_stateAfterLetter_1 (by decide) (by decide) (by decide) (by decide) ?_
    refine lv_iconst (v := (-1)) hx hb dX3_stateAfterLetter_108 (by decide) ?_
    exact greti hx hb hr hlocks hP hD hS (by decide) (rfl) dX3_stateAfterLetter_109
  · refine lv_tableIn (off := 107) (tgt := 108) hx hb dX3_stateAfterLetter_1 (by decide) (by decide) (by decide) (by decide) ?_
    refine lv_iconst (v := (-1)) hx hb dX3_stateAfterLetter_108 (by decide) ?_
    exact greti hx hb hr hlocks hP hD hS (by decide) (rfl) dX3_stateAfterLetter_109
  · refine lv_tableIn (off := 105) (tgt := 106) hx hb dX3_stateAfterLetter_1 (by decide) (by decide) (by decide) (by decide) ?_
    refine lv_iconst (v := 1) hx hb dX3_stateAfterLetter_106 (by decide) ?_
    exact greti hx hb hr hlocks hP hD hS (by decide) (rfl) dX3_stateAfterLetter_107
  · refine lv_tableIn (off := 103) (tgt := 104) hx hb dX3_stateAfterLetter_1 (by decide) (by decide) (by decide) (by decide) ?_
    refine lv_iconst (v := 2) hx hb dX3_stateAfterLetter_104 (by decide) ?_
    exact greti hx hb hr hlocks hP hD hS (by decide) (rfl) dX3_stateAfterLetter_105
  · refine lv_tableIn (off := 105) (tgt := 106) hx hb dX3_stateAfterLetter_1 (by decide) (by decide) (by decide) (by decide) ?_
    refine lv_iconst (v := 1) hx hb dX3_stateAfterLetter_106 (by decide) ?_
    exact greti hx hb hr hlocks hP hD hS (by decide) (rfl) dX3_stateAfterLetter_107
  · refine lv_tableIn (off := 107) (tgt := 108) hx hb dX3_stateAfterLetter_1 (by decide) (by decide) (by decide) (by decide) ?_
    refine lv_iconst (v := (-1)) hx hb dX3_stateAfterLetter_108 (by decide) ?_
    exact greti hx hb hr hlocks hP hD hS (by decide) (rfl) dX3_stateAfterLetter_109
  · refine lv_tableIn (off := 107) (tgt := 108) hx hb dX3_stateAfterLetter_1 (by decide) (by decide) (by decide) (by decide) ?_
    refine lv_iconst (v := (-1)) hx hb dX3_stateAfterLetter_108 (by decide) ?_
    exact greti hx hb hr hlocks hP hD hS (by decide) (rfl) dX3_stateAfterLetter_109
  · refine lv_tableIn (off := 107) (tgt := 108) hx hb dX3_stateAfterLetter_1 (by decide) (by decide) (by decide) (by decide) ?_
    refine lv_iconst (v := (-1)) hx hb dX3_stateAfterLetter_108 (by decide) ?_
    exact greti hx hb hr hlocks hP hD hS (by decide) (rfl) dX3_stateAfterLetter_109
  · refine lv_tableIn (off := 103) (tgt := 104) hx hb dX3_stateAfterLetter_1 (by decide) (by decide) (by decide) (by decide) ?_
    refine lv_iconst (v := 2) hx hb dX3_stateAfterLetter_104 (by decide) ?_
    exact greti hx hb hr hlocks hP hD hS (by decide) (rfl) dX3_stateAfterLetter_105

set_option maxHeartbeats 4000000 in
set_option maxRecDepth 100000 in
theorem c_X3_stateAfter (l : Launch) (E : EE) (v0 v1 : Int32) : GM l yX3_stateAfter wsX3_stateAfter 1 20 E ([]) [.int v0, .int v1] ([]) (some (.int (saI v0 v1))) := by
  intro sz
  refine Met.ofW (cc := cX3_stateAfter) (maxL := 2) (ret := (some .int)) (by decide) rfl ?_
  intro p e s m args below meth c s₁ B hml hv
  obtain ⟨rfl, rfl, hP, hK, hD0, hN⟩ := hv
  have hx := B.exec
  have hb := B.bytes
  have hr := B.returns
  have hts := atoms_spec (ws := wsX3_stateAfter) B.pre
  have hown : s.vm.findClass RX3 = some m.cls := findClass_of_methodNamed B.named
  have hlocks := B.notSynchronized
  have hD := hD0.self (sz := s.heap.size)
  have hA : ∀ q : Nat, s.heap.size ≤ q → va_A ([]) s.heap.size q := fun q h => Or.inr h
  have hS : va_S (va_A ([]) s.heap.size) s.heap s.heap [] := va_S.rf
  have hl := lv_entry ([.int v0, .int v1]) (n := 2) (Nat.le_of_ble_eq_true rfl)
  rw [lg_entry_eq]
  generalize (lg_sl ([.int v0, .int v1]) ++ List.replicate (2 - (lg_sl ([.int v0, .int v1])).length) Slot.unset).toArray = ls at hl ⊢
  have hl : lv_has ls 2 [(0, .int v0), (1, .int v1)] := hl
  refine lv_iload_n hx hb dX3_stateAfter_0 rfl (lv_at hl 0 rfl) ?_
  refine lv_if_ne (tgt := 9) hx hb dX3_stateAfter_1 (by decide) (fun c_1 => ?_) (fun c_1 => ?_)
  · refine lv_iload_n hx hb dX3_stateAfter_9 rfl (lv_at hl 0 rfl) ?_
    refine lv_iconst (v := 1) hx hb dX3_stateAfter_10 (by decide) ?_
    refine lv_icmp_ne (tgt := 36) hx hb dX3_stateAfter_11 (by decide) (fun c_11 => ?_) (fun c_11 => ?_)
    · refine lv_iload_n hx hb dX3_stateAfter_36 rfl (lv_at hl 1 rfl) ?_
      refine lv_bipush (v := 44) hx hb dX3_stateAfter_37 (by decide) ?_
      refine lv_icmp_ne (tgt := 44) hx hb dX3_stateAfter_39 (by decide) (fun c_39 => ?_) (fun c_39 => ?_)
      · refine lv_iload_n hx hb dX3_stateAfter_44 rfl (lv_at hl 0 rfl) ?_
        refine lv_iconst (v := 2) hx hb dX3_stateAfter_45 (by decide) ?_
        refine lv_icmp_le (tgt := 62) hx hb dX3_stateAfter_46 (by decide) (fun c_46 => ?_) (fun c_46 => ?_)
        · refine lv_iconst (v := (-1)) hx hb dX3_stateAfter_62 (by decide) ?_
          exact greti hx hb hr hlocks hP hD hS (by simp only [saI, if_neg c_1, if_neg c_11, if_neg c_39, if_pos c_46]) (rfl) dX3_stateAfter_63
        · refine lv_iload_n hx hb dX3_stateAfter_49 rfl (lv_at hl 1 rfl) ?_
          refine gsnPi (As := [.int v1]) (rest := []) ⟨hx, hb, hml, hown, hts⟩ (c_X4_isDigit l E v1) (⟨va_cnB 1 hts ggX3_stateAfter_X4_isDigit rfl rfl rfl hN.2.2.2.1 (hts (.initialized RX4) (List.mem_of_getElem? (i := 6) rfl)) (by decide +kernel) ⟨Nat.le_of_ble_eq_true rfl, Nat.le_of_ble_eq_true rfl⟩, hts (.static yX4_isDigit) (List.mem_of_getElem? (i := 5) rfl), trivial⟩) hP hK hD hN hS hA rfl hl.1 rfl (Nat.le_of_ble_eq_true rfl) dX3_stateAfter_50 ⟨Nat.le_refl _, Nat.le_refl _⟩ (fun H locs hP hD hS => ?_)
          refine lv_if_eq (tgt := 62) hx hb dX3_stateAfter_53 (by decide) (fun c_53 => ?_) (fun c_53 => ?_)
          · refine lv_iconst (v := (-1)) hx hb dX3_stateAfter_62 (by decide) ?_
            exact greti hx hb hr hlocks hP hD hS (by simp only [saI, if_neg c_1, if_neg c_11, if_neg c_39, if_neg c_46, if_pos c_53]) (rfl) dX3_stateAfter_63
          · refine lv_iload_n hx hb dX3_stateAfter_56 rfl (lv_at hl 0 rfl) ?_
            refine lv_iconst (v := 1) hx hb dX3_stateAfter_57 (by decide) ?_
            refine lv_isub hx hb dX3_stateAfter_58 ?_
            refine lv_goto (tgt := 63) hx hb dX3_stateAfter_59 (by decide) ?_
            exact greti hx hb hr hlocks hP hD hS (by simp only [saI, if_neg c_1, if_neg c_11, if_neg c_39, if_neg c_46, if_neg c_53]) (rfl) dX3_stateAfter_63
      · refine lv_iconst (v := 0) hx hb dX3_stateAfter_42 (by decide) ?_
        exact greti hx hb hr hlocks hP hD hS (by simp only [saI, if_neg c_1, if_neg c_11, if_pos c_39]) (rfl) dX3_stateAfter_43
    · refine lv_iload_n hx hb dX3_stateAfter_14 rfl (lv_at hl 1 rfl) ?_
      refine lv_bipush (v := 48) hx hb dX3_stateAfter_15 (by decide) ?_
      refine lv_icmp_ne (tgt := 22) hx hb dX3_stateAfter_17 (by decide) (fun c_17 => ?_) (fun c_17 => ?_)
      · refine lv_iload_n hx hb dX3_stateAfter_22 rfl (lv_at hl 1 rfl) ?_
        refine gsnPi (As := [.int v1]) (rest := []) ⟨hx, hb, hml, hown, hts⟩ (c_X4_isDigit l E v1) (⟨va_cnB 1 hts ggX3_stateAfter_X4_isDigit rfl rfl rfl hN.2.2.2.1 (hts (.initialized RX4) (List.mem_of_getElem? (i := 6) rfl)) (by decide +kernel) ⟨Nat.le_of_ble_eq_true rfl, Nat.le_of_ble_eq_true rfl⟩, hts (.static yX4_isDigit) (List.mem_of_getElem? (i := 5) rfl), trivial⟩) hP hK hD hN hS hA rfl hl.1 rfl (Nat.le_of_ble_eq_true rfl) dX3_stateAfter_23 ⟨Nat.le_refl _, Nat.le_refl _⟩ (fun H locs hP hD hS => ?_)
        refine lv_if_eq (tgt := 34) hx hb dX3_stateAfter_26 (by decide) (fun c_26 => ?_) (fun c_26 => ?_)
        · refine lv_iconst (v := (-1)) hx hb dX3_stateAfter_34 (by decide) ?_
          exact greti hx hb hr hlocks hP hD hS (by simp only [saI, if_neg c_1, if_pos c_11, if_neg c_17, if_pos c_26]) (rfl) dX3_stateAfter_35
        · refine lv_bipush (v := 6) hx hb dX3_stateAfter_29 (by decide) ?_
          refine lv_goto (tgt := 35) hx hb dX3_stateAfter_31 (by decide) ?_
          exact greti hx hb hr hlocks hP hD hS (by simp only [saI, if_neg c_1, if_pos c_11, if_neg c_17, if_neg c_26]) (rfl) dX3_stateAfter_35
      · refine lv_iconst (v := 2) hx hb dX3_stateAfter_20 (by decide) ?_
        exact greti hx hb hr hlocks hP hD hS (by simp only [saI, if_neg c_1, if_pos c_11, if_pos c_17]) (rfl) dX3_stateAfter_21
  · refine lv_iload_n hx hb dX3_stateAfter_4 rfl (lv_at hl 1 rfl) ?_
    refine gsPi (As := [.int v1]) (rest := []) ⟨hx, hb, hml, hown, hts⟩ (c_X3_stateAfterLetter l E v1) (va_cwS 1 hts gX3_stateAfter_X3_stateAfterLetter rfl rfl rfl (by decide +kernel) ⟨Nat.le_of_ble_eq_true rfl, Nat.le_of_ble_eq_true rfl⟩) hP hK hD hN hS hA rfl hl.1 rfl (Nat.le_of_ble_eq_true rfl) dX3_stateAfter_5 ⟨Nat.le_refl _, Nat.le_refl _⟩ (fun H locs hP hD hS => ?_)
    exact greti hx hb hr hlocks hP hD hS (by simp only [saI, if_pos c_1]) (rfl) dX3_stateAfter_8

set_option maxHeartbeats 4000000 in
set_option maxRecDepth 100000 in
theorem c_X3_errorIndex (l : Launch) (E : EE) (Rp : Nat → Nat) (ln : Int32) (cd : Nat → Int32) (L : Nat) (hL : ln = nI L) (hL5 : L ≤ 50) : GM l yX3_errorIndex wsX3_errorIndex 2 41 E (wR E Rp ln cd) [.ref (Rp 0)] (wR E Rp ln cd) (some (.int (eiL cd L 0 0))) := by
  intro sz
  refine Met.ofW (cc := cX3_errorIndex) (maxL := 3) (ret := (some .int)) (by decide) rfl ?_
  intro p e s m args below meth c s₁ B hml hv
  obtain ⟨rfl, rfl, hP, hK, hD0, hN⟩ := hv
  have hx := B.exec
  have hb := B.bytes
  have hr := B.returns
  have hts := atoms_spec (ws := wsX3_errorIndex) B.pre
  have hown : s.vm.findClass RX3 = some m.cls := findClass_of_methodNamed B.named
  have hlocks := B.notSynchronized
  have hD := hD0.self (sz := s.heap.size)
  have hA : ∀ q : Nat, s.heap.size ≤ q → va_A (wR E Rp ln cd) s.heap.size q := fun q h => Or.inr h
  have hS : va_S (va_A (wR E Rp ln cd) s.heap.size) s.heap s.heap [] := va_S.rf
  have hl := lv_entry ([.ref (Rp 0)]) (n := 3) (Nat.le_of_ble_eq_true rfl)
  rw [lg_entry_eq]
  generalize (lg_sl ([.ref (Rp 0)]) ++ List.replicate (3 - (lg_sl ([.ref (Rp 0)])).length) Slot.unset).toArray = ls at hl ⊢
  have hl : lv_has ls 3 [(0, .ref (Rp 0))] := hl
  have hf15 := hts (.fieldLink RX3 15 "PhaseConverter$Program" "length" "I") (List.mem_of_getElem? (i := 1) rfl)
  have hiX3 : ∀ w ∈ u_ws RX3 TX3 2, w ∈ wsX3_errorIndex := memIn [17, 18] rfl
  refine lv_iconst (v := 0) hx hb dX3_errorIndex_0 (by decide) ?_
  refine lv_istore_n (lv' := [(1, .int 0), (0, .ref (Rp 0))]) hx hb dX3_errorIndex_1 rfl hl (by decide) rfl (fun ls hl => ?_)
  refine lv_iconst (v := 0) hx hb dX3_errorIndex_2 (by decide) ?_
  refine lv_istore_n (lv' := [(2, .int 0), (1, .int 0), (0, .ref (Rp 0))]) hx hb dX3_errorIndex_3 rfl hl (by decide) rfl (fun ls hl => ?_)
  have L_4 : ∀ (n i : Nat) (y1 : Int32) (H : Heap) (locs : List Loc) (ls : Array Slot), (i + n = L) → (eiL cd n i y1 = eiL cd L 0 0) → va_P E.1 vwCl (wR E Rp ln cd) H → va_D (va_A (wR E Rp ln cd) s.heap.size) (wR E Rp ln cd) → va_S (va_A (wR E Rp ln cd) s.heap.size) s.heap H locs → lv_has ls 3 [(2, .int (nI i)), (1, .int y1), (0, .ref (Rp 0))] → W p l e (gR wsX3_errorIndex 2 41) s m ([.ref (Rp 0)] : List Value).toArray below meth c H locs 0 0 (gMQ below E s (wR E Rp ln cd) (wR E Rp ln cd) (some (.int (eiL cd L 0 0))) [.ref (Rp 0)]) (F0 m 4 ls []) := by
    intro n
    induction n with
    | zero =>
      intro i y1 H locs ls hin  hfn hP hD hS hl
      have hiL : i = L := by omega
      refine lv_iload_n hx hb dX3_errorIndex_4 rfl (lv_at hl 0 rfl) ?_
      refine lv_aload_n hx hb dX3_errorIndex_5 rfl (lv_at hl 2 rfl) ?_
      refine va_get (D := E.1) (ci := 3) (v := .int ln) (C := RX3) (T := TX3) (N := 2) hx hb hts hiX3 hown hK hP 0 rfl rfl 1 (by decide) hf15 (fun _ h9 => h9) rfl dX3_errorIndex_6 ?_
      refine lv_icmp_ge (tgt := 35) hx hb dX3_errorIndex_9 (by decide) (fun c_9 => ?_) (fun c_9 => absurd (by rw [hL]; exact nI_le (by omega) (by omega)) c_9)
      refine lv_aload_n hx hb dX3_errorIndex_35 rfl (lv_at hl 2 rfl) ?_
      refine va_get (D := E.1) (ci := 3) (v := .int ln) (C := RX3) (T := TX3) (N := 2) hx hb hts hiX3 hown hK hP 0 rfl rfl 1 (by decide) hf15 (fun _ h9 => h9) rfl dX3_errorIndex_36 ?_
      exact greti hx hb hr hlocks hP hD hS (hL.trans ((congrArg nI hiL.symm).trans hfn)) (rfl) dX3_errorIndex_39
    | succ n ih =>
      intro i y1 H locs ls hin  hfn hP hD hS hl
      refine lv_iload_n hx hb dX3_errorIndex_4 rfl (lv_at hl 0 rfl) ?_
      refine lv_aload_n hx hb dX3_errorIndex_5 rfl (lv_at hl 2 rfl) ?_
      refine va_get (D := E.1) (ci := 3) (v := .int ln) (C := RX3) (T := TX3) (N := 2) hx hb hts hiX3 hown hK hP 0 rfl rfl 1 (by decide) hf15 (fun _ h9 => h9) rfl dX3_errorIndex_6 ?_
      refine lv_icmp_ge (tgt := 35) hx hb dX3_errorIndex_9 (by decide) (fun c_9 => absurd c_9 (by rw [hL]; exact nI_ge (by omega) (by omega))) (fun c_9 => ?_)
      refine lv_iload_n hx hb dX3_errorIndex_12 rfl (lv_at hl 1 rfl) ?_
      refine lv_aload_n hx hb dX3_errorIndex_13 rfl (lv_at hl 2 rfl) ?_
      refine lv_iload_n hx hb dX3_errorIndex_14 rfl (lv_at hl 0 rfl) ?_
      refine gv0i (As := [.int (nI i)]) (rest := [.int y1]) ⟨hx, hb, hml, hown, hts⟩ (c_X3_codeAt l E Rp ln cd i (by omega)) (cwV 1 hts gX3_errorIndex_X3_codeAt rfl rfl rfl (by decide +kernel) ⟨Nat.le_of_ble_eq_true rfl, Nat.le_of_ble_eq_true rfl⟩) (va_recv hK hP (ci := 3) (q0 := 0) rfl rfl) hP hK hD hN hS hA rfl hl.1 rfl (Nat.le_of_ble_eq_true rfl) dX3_errorIndex_15 ⟨Nat.le_refl _, Nat.le_refl _⟩ (fun H locs hP hD hS => ?_)
      refine gsPi (As := [.int y1, .int (cd i)]) (rest := []) ⟨hx, hb, hml, hown, hts⟩ (c_X3_stateAfter l E y1 (cd i)) (va_cwS 2 hts gX3_errorIndex_X3_stateAfter rfl rfl rfl (by decide +kernel) ⟨Nat.le_of_ble_eq_true rfl, Nat.le_of_ble_eq_true rfl⟩) hP hK hD hN hS hA rfl hl.1 rfl (Nat.le_of_ble_eq_true rfl) dX3_errorIndex_18 ⟨Nat.le_refl _, Nat.le_refl _⟩ (fun H locs hP hD hS => ?_)
      refine lv_istore_n (lv' := [(1, .int (saI y1 (cd i))), (2, .int (nI i)), (0, .ref (Rp 0))]) hx hb dX3_errorIndex_21 rfl hl (by decide) rfl (fun ls hl => ?_)
      refine lv_iload_n hx hb dX3_errorIndex_22 rfl (lv_at hl 0 rfl) ?_
      refine lv_iconst (v := (-1)) hx hb dX3_errorIndex_23 (by decide) ?_
      refine lv_icmp_ne (tgt := 29) hx hb dX3_errorIndex_24 (by decide) (fun c_24 => ?_) (fun c_24 => ?_)
      · refine lv_iinc (v := nI (i + 1)) (lv' := [(2, .int (nI (i + 1))), (1, .int (saI y1 (cd i))), (0, .ref (Rp 0))]) hx hb dX3_errorIndex_29 hl (k := 1) rfl (nI_1 _) (by decide) rfl (fun ls hl => ?_)
        refine lv_goto (tgt := 4) hx hb dX3_errorIndex_32 (by decide) ?_
        exact ih (i + 1) (saI y1 (cd i)) H locs ls (by omega)  ((if_neg c_24).symm.trans hfn) hP hD hS (lv_sub hl [0, 1, 2] rfl)
      · refine lv_iload_n hx hb dX3_errorIndex_27 rfl (lv_at hl 1 rfl) ?_
        exact greti hx hb hr hlocks hP hD hS ((if_pos c_24).symm.trans hfn) (rfl) dX3_errorIndex_28
  exact L_4 (L) (0) 0 s.heap [] ls (by omega)  rfl hP hD hS (lv_sub hl [0, 1, 2] rfl)

set_option maxHeartbeats 4000000 in
set_option maxRecDepth 100000 in
theorem c_X3_isComplete (l : Launch) (E : EE) (Rp : Nat → Nat) (ln : Int32) (cd : Nat → Int32) (L : Nat) (hL : ln = nI L) (hL5 : L ≤ 50) : GM l yX3_isComplete wsX3_isComplete 2 41 E (wR E Rp ln cd) [.ref (Rp 0)] (wR E Rp ln cd) (some (.int (icI cd L))) := by
  intro sz
  refine Met.ofW (cc := cX3_isComplete) (maxL := 3) (ret := (some .boolean)) (by decide) rfl ?_
  intro p e s m args below meth c s₁ B hml hv
  obtain ⟨rfl, rfl, hP, hK, hD0, hN⟩ := hv
  have hx := B.exec
  have hb := B.bytes
  have hr := B.returns
  have hts := atoms_spec (ws := wsX3_isComplete) B.pre
  have hown : s.vm.findClass RX3 = some m.cls := findClass_of_methodNamed B.named
  have hlocks := B.notSynchronized
  have hD := hD0.self (sz := s.heap.size)
  have hA : ∀ q : Nat, s.heap.size ≤ q → va_A (wR E Rp ln cd) s.heap.size q := fun q h => Or.inr h
  have hS : va_S (va_A (wR E Rp ln cd) s.heap.size) s.heap s.heap [] := va_S.rf
  have hl := lv_entry ([.ref (Rp 0)]) (n := 3) (Nat.le_of_ble_eq_true rfl)
  rw [lg_entry_eq]
  generalize (lg_sl ([.ref (Rp 0)]) ++ List.replicate (3 - (lg_sl ([.ref (Rp 0)])).length) Slot.unset).toArray = ls at hl ⊢
  have hl : lv_has ls 3 [(0, .ref (Rp 0))] := hl
  have hf15 := hts (.fieldLink RX3 15 "PhaseConverter$Program" "length" "I") (List.mem_of_getElem? (i := 1) rfl)
  have hiX3 : ∀ w ∈ u_ws RX3 TX3 2, w ∈ wsX3_isComplete := memIn [17, 18] rfl
  refine lv_iconst (v := 0) hx hb dX3_isComplete_0 (by decide) ?_
  refine lv_istore_n (lv' := [(1, .int 0), (0, .ref (Rp 0))]) hx hb dX3_isComplete_1 rfl hl (by decide) rfl (fun ls hl => ?_)
  refine lv_iconst (v := 0) hx hb dX3_isComplete_2 (by decide) ?_
  refine lv_istore_n (lv' := [(2, .int 0), (1, .int 0), (0, .ref (Rp 0))]) hx hb dX3_isComplete_3 rfl hl (by decide) rfl (fun ls hl => ?_)
  have L_4 : ∀ (n i : Nat) (y1 : Int32) (H : Heap) (locs : List Loc) (ls : Array Slot), (i + n = L) → (icL cd n i y1 = icL cd L 0 0) → va_P E.1 vwCl (wR E Rp ln cd) H → va_D (va_A (wR E Rp ln cd) s.heap.size) (wR E Rp ln cd) → va_S (va_A (wR E Rp ln cd) s.heap.size) s.heap H locs → lv_has ls 3 [(2, .int (nI i)), (1, .int y1), (0, .ref (Rp 0))] → W p l e (gR wsX3_isComplete 2 41) s m ([.ref (Rp 0)] : List Value).toArray below meth c H locs 0 0 (gMQ below E s (wR E Rp ln cd) (wR E Rp ln cd) (some (.int (icI cd L))) [.ref (Rp 0)]) (F0 m 4 ls []) := by
    intro n
    induction n with
    | zero =>
      intro i y1 H locs ls hin  hfn hP hD hS hl
      have hfn : y1 = icL cd L 0 0 := hfn
      refine lv_iload_n hx hb dX3_isComplete_4 rfl (lv_at hl 0 rfl) ?_
      refine lv_aload_n hx hb dX3_isComplete_5 rfl (lv_at hl 2 rfl) ?_
      refine va_get (D := E.1) (ci := 3) (v := .int ln) (C := RX3) (T := TX3) (N := 2) hx hb hts hiX3 hown hK hP 0 rfl rfl 1 (by decide) hf15 (fun _ h9 => h9) rfl dX3_isComplete_6 ?_
      refine lv_icmp_ge (tgt := 33) hx hb dX3_isComplete_9 (by decide) (fun c_9 => ?_) (fun c_9 => absurd (by rw [hL]; exact nI_le (by omega) (by omega)) c_9)
      refine lv_iload_n hx hb dX3_isComplete_33 rfl (lv_at hl 1 rfl) ?_
      refine lv_iconst (v := 2) hx hb dX3_isComplete_34 (by decide) ?_
      refine lv_icmp_lt (tgt := 42) hx hb dX3_isComplete_35 (by decide) (fun c_35 => ?_) (fun c_35 => ?_)
      · refine lv_iconst (v := 0) hx hb dX3_isComplete_42 (by decide) ?_
        exact gretz hx hb hr hlocks hP hD hS (by first | exact Or.inl rfl | exact Or.inr rfl) (by unfold icI; rw [← hfn, if_pos c_35]) (rfl) dX3_isComplete_43
      · refine lv_iconst (v := 1) hx hb dX3_isComplete_38 (by decide) ?_
        refine lv_goto (tgt := 43) hx hb dX3_isComplete_39 (by decide) ?_
        exact gretz hx hb hr hlocks hP hD hS (by first | exact Or.inl rfl | exact Or.inr rfl) (by unfold icI; rw [← hfn, if_neg c_35]) (rfl) dX3_isComplete_43
    | succ n ih =>
      intro i y1 H locs ls hin  hfn hP hD hS hl
      refine lv_iload_n hx hb dX3_isComplete_4 rfl (lv_at hl 0 rfl) ?_
      refine lv_aload_n hx hb dX3_isComplete_5 rfl (lv_at hl 2 rfl) ?_
      refine va_get (D := E.1) (ci := 3) (v := .int ln) (C := RX3) (T := TX3) (N := 2) hx hb hts hiX3 hown hK hP 0 rfl rfl 1 (by decide) hf15 (fun _ h9 => h9) rfl dX3_isComplete_6 ?_
      refine lv_icmp_ge (tgt := 33) hx hb dX3_isComplete_9 (by decide) (fun c_9 => absurd c_9 (by rw [hL]; exact nI_ge (by omega) (by omega))) (fun c_9 => ?_)
      refine lv_iload_n hx hb dX3_isComplete_12 rfl (lv_at hl 1 rfl) ?_
      refine lv_iconst (v := (-1)) hx hb dX3_isComplete_13 (by decide) ?_
      refine lv_icmp_eq (tgt := 33) hx hb dX3_isComplete_14 (by decide) (fun c_14 => ?_) (fun c_14 => ?_)
      · refine lv_iload_n hx hb dX3_isComplete_33 rfl (lv_at hl 1 rfl) ?_
        refine lv_iconst (v := 2) hx hb dX3_isComplete_34 (by decide) ?_
        refine lv_icmp_lt (tgt := 42) hx hb dX3_isComplete_35 (by decide) (fun c_35 => ?_) (fun c_35 => ?_)
        · refine lv_iconst (v := 0) hx hb dX3_isComplete_42 (by decide) ?_
          exact gretz hx hb hr hlocks hP hD hS (by first | exact Or.inl rfl | exact Or.inr rfl) (by unfold icI; rw [← ((if_pos c_14).symm.trans hfn), if_pos c_35]) (rfl) dX3_isComplete_43
        · refine lv_iconst (v := 1) hx hb dX3_isComplete_38 (by decide) ?_
          refine lv_goto (tgt := 43) hx hb dX3_isComplete_39 (by decide) ?_
          exact gretz hx hb hr hlocks hP hD hS (by first | exact Or.inl rfl | exact Or.inr rfl) (by unfold icI; rw [← ((if_pos c_14).symm.trans hfn), if_neg c_35]) (rfl) dX3_isComplete_43
      · refine lv_iload_n hx hb dX3_isComplete_17 rfl (lv_at hl 1 rfl) ?_
        refine lv_aload_n hx hb dX3_isComplete_18 rfl (lv_at hl 2 rfl) ?_
        refine lv_iload_n hx hb dX3_isComplete_19 rfl (lv_at hl 0 rfl) ?_
        refine gv0i (As := [.int (nI i)]) (rest := [.int y1]) ⟨hx, hb, hml, hown, hts⟩ (c_X3_codeAt l E Rp ln cd i (by omega)) (cwV 1 hts gX3_isComplete_X3_codeAt rfl rfl rfl (by decide +kernel) ⟨Nat.le_of_ble_eq_true rfl, Nat.le_of_ble_eq_true rfl⟩) (va_recv hK hP (ci := 3) (q0 := 0) rfl rfl) hP hK hD hN hS hA rfl hl.1 rfl (Nat.le_of_ble_eq_true rfl) dX3_isComplete_20 ⟨Nat.le_refl _, Nat.le_refl _⟩ (fun H locs hP hD hS => ?_)
        refine gsPi (As := [.int y1, .int (cd i)]) (rest := []) ⟨hx, hb, hml, hown, hts⟩ (c_X3_stateAfter l E y1 (cd i)) (va_cwS 2 hts gX3_isComplete_X3_stateAfter rfl rfl rfl (by decide +kernel) ⟨Nat.le_of_ble_eq_true rfl, Nat.le_of_ble_eq_true rfl⟩) hP hK hD hN hS hA rfl hl.1 rfl (Nat.le_of_ble_eq_true rfl) dX3_isComplete_23 ⟨Nat.le_refl _, Nat.le_refl _⟩ (fun H locs hP hD hS => ?_)
        refine lv_istore_n (lv' := [(1, .int (saI y1 (cd i))), (2, .int (nI i)), (0, .ref (Rp 0))]) hx hb dX3_isComplete_26 rfl hl (by decide) rfl (fun ls hl => ?_)
        refine lv_iinc (v := nI (i + 1)) (lv' := [(2, .int (nI (i + 1))), (1, .int (saI y1 (cd i))), (0, .ref (Rp 0))]) hx hb dX3_isComplete_27 hl (k := 1) rfl (nI_1 _) (by decide) rfl (fun ls hl => ?_)
        refine lv_goto (tgt := 4) hx hb dX3_isComplete_30 (by decide) ?_
        exact ih (i + 1) (saI y1 (cd i)) H locs ls (by omega)  ((if_neg c_14).symm.trans hfn) hP hD hS (lv_sub hl [0, 1, 2] rfl)
  exact L_4 (L) (0) 0 s.heap [] ls (by omega)  rfl hP hD hS (lv_sub hl [0, 1, 2] rfl)
