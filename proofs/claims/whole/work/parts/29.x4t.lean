theorem inRg_hi {v lo hi : Int32} (h : inRg v lo hi = 0) (h2 : ¬ v < lo) : hi < v := by
  unfold inRg at h
  rw [if_neg h2] at h
  by_cases q : hi < v
  · exact q
  · rw [if_neg q] at h
    exact absurd h (by decide)
theorem inRg_of {v lo hi : Int32} (h1 : ¬ v < lo) (h2 : ¬ hi < v) : ¬ inRg v lo hi = 0 := by
  unfold inRg
  rw [if_neg h1, if_neg h2]
  decide
theorem inRg_m1 {v x : Int32} {K : Nat} (hx : x = nI K) (hK : K < 2 ^ 30) (h : inRg v 0 (x - 1) = 0) (h2 : ¬ v < 0) : x ≤ v := by
  have h3 := inRg_hi h h2
  rw [hx, Int32.lt_iff_toInt_lt, show (1 : Int32) = nI 1 from rfl, pk_sub_toInt hK (by omega)] at h3
  rw [hx, Int32.le_iff_toInt_le, nI_toInt (by omega)]
  omega
set_option maxHeartbeats 4000000 in
set_option maxRecDepth 100000 in
theorem t_X4_begin (l : Launch) (hst : l.stackTraces = false) (E : EE) (Sp : Nat → Nat) (Xp : Nat) (Cp : Nat → Nat) (sz nw : Int32) (pf : Nat → Int32) (Bp : Nat → Nat) (g z : Nat → Int32) (lo up pk : Int32) (Tp : Nat → Nat) (g2 z2 : Nat → Int32) (lo2 up2 pk2 : Int32) (Rp : Nat → Nat) (ln : Int32) (cd : Nat → Int32) (v1 : Int32) (hv : inRg v1 1 4 = 0) : GT l yX4_begin wsX4_begin 6 82 E Sp (wO Xp Bp Tp Cp Rp ++ (wH E Cp sz nw pf ++ (wP E Bp g z lo up pk ++ (wP E Tp g2 z2 lo2 up2 pk2 ++ (wR E Rp ln cd))))) [.ref Xp, .int v1] IAE := by
  intro sz
  refine vx_ofW (cc := cX4_begin) (maxL := 3) (ret := (some .int)) (by decide) rfl ?_
  intro p e s m args below meth c s₁ B hml hex hv
  obtain ⟨⟨rfl, rfl, hP, hK, hD0, hN⟩, hX⟩ := hv
  have hx := B.exec
  have hb := B.bytes
  have hr := B.returns
  have hts := atoms_spec (ws := wsX4_begin) B.pre
  have hown : s.vm.findClass RX4 = some m.cls := findClass_of_methodNamed B.named
  have hlocks := B.notSynchronized
  have hD := hD0.self (sz := s.heap.size)
  have hA : ∀ q : Nat, s.heap.size ≤ q → va_A (wO Xp Bp Tp Cp Rp ++ (wH E Cp sz nw pf ++ (wP E Bp g z lo up pk ++ (wP E Tp g2 z2 lo2 up2 pk2 ++ (wR E Rp ln cd))))) s.heap.size q := fun q h => Or.inr h
  have hS : va_S (va_A (wO Xp Bp Tp Cp Rp ++ (wH E Cp sz nw pf ++ (wP E Bp g z lo up pk ++ (wP E Tp g2 z2 lo2 up2 pk2 ++ (wR E Rp ln cd))))) s.heap.size) s.heap s.heap [] := va_S.rf
  have hl := lv_entry ([.ref Xp, .int v1]) (n := 3) (Nat.le_of_ble_eq_true rfl)
  rw [lg_entry_eq]
  generalize (lg_sl ([.ref Xp, .int v1]) ++ List.replicate (3 - (lg_sl ([.ref Xp, .int v1])).length) Slot.unset).toArray = ls at hl ⊢
  have hl : lv_has ls 3 [(0, .ref Xp), (1, .int v1)] := hl
  refine lv_iload_n hx hb dX4_begin_0 rfl (lv_at hl 1 rfl) ?_
  refine lv_iconst (v := 1) hx hb dX4_begin_1 (by decide) ?_
  refine lv_icmp_lt (tgt := 10) hx hb dX4_begin_2 (by decide) (fun c_2 => ?_) (fun c_2 => ?_)
  · exact gthrow hx hb hst hown rfl (hts (.classLink RX4 35 "java/lang/IllegalArgumentException") (List.mem_of_getElem? (i := 1) rfl)) (hts (.initialized "java/lang/IllegalArgumentException") (List.mem_of_getElem? (i := 2) rfl)) (List.mem_of_getElem? (i := 0) rfl) (fun w9 h9 => hts w9 (List.mem_cons_of_mem _ (List.mem_append_right _ h9))) th_ngA hX.2.2.2.2.2.2.1.2.2.2.1 th_otA hX hP hD hS (hl.1.trans hml.symm) dX4_begin_10 dX4_begin_13 dX4_begin_14 dX4_begin_16 dX4_begin_19 hex (Nat.le_of_ble_eq_true rfl) (Nat.le_of_ble_eq_true rfl) (Nat.le_of_ble_eq_true rfl) (Nat.le_of_ble_eq_true rfl) hlocks
  · refine lv_iload_n hx hb dX4_begin_5 rfl (lv_at hl 1 rfl) ?_
    refine lv_iconst (v := 4) hx hb dX4_begin_6 (by decide) ?_
    refine lv_icmp_le (tgt := 20) hx hb dX4_begin_7 (by decide) (fun c_7 => absurd c_7 (Int32.not_le.mpr (inRg_hi hv c_2))) (fun c_7 => ?_)
    exact gthrow hx hb hst hown rfl (hts (.classLink RX4 35 "java/lang/IllegalArgumentException") (List.mem_of_getElem? (i := 1) rfl)) (hts (.initialized "java/lang/IllegalArgumentException") (List.mem_of_getElem? (i := 2) rfl)) (List.mem_of_getElem? (i := 0) rfl) (fun w9 h9 => hts w9 (List.mem_cons_of_mem _ (List.mem_append_right _ h9))) th_ngA hX.2.2.2.2.2.2.1.2.2.2.1 th_otA hX hP hD hS (hl.1.trans hml.symm) dX4_begin_10 dX4_begin_13 dX4_begin_14 dX4_begin_16 dX4_begin_19 hex (Nat.le_of_ble_eq_true rfl) (Nat.le_of_ble_eq_true rfl) (Nat.le_of_ble_eq_true rfl) (Nat.le_of_ble_eq_true rfl) hlocks

set_option maxHeartbeats 4000000 in
set_option maxRecDepth 100000 in
theorem t_X4_set1 (l : Launch) (hst : l.stackTraces = false) (E : EE) (Sp : Nat → Nat) (Xp : Nat) (Cp : Nat → Nat) (sz nw : Int32) (pf : Nat → Int32) (Bp : Nat → Nat) (g z : Nat → Int32) (lo up pk : Int32) (Tp : Nat → Nat) (g2 z2 : Nat → Int32) (lo2 up2 pk2 : Int32) (Rp : Nat → Nat) (ln : Int32) (cd : Nat → Int32) (v1 v2 : Int32) (hv : inRg v1 0 14 = 0) : GT l yX4_set wsX4_set 6 82 E Sp (wO Xp Bp Tp Cp Rp ++ (wH E Cp sz nw pf ++ (wP E Bp g z lo up pk ++ (wP E Tp g2 z2 lo2 up2 pk2 ++ (wR E Rp ln cd))))) [.ref Xp, .int v1, .int v2] IOE := by
  intro sz
  refine vx_ofW (cc := cX4_set) (maxL := 4) (ret := (some .int)) (by decide) rfl ?_
  intro p e s m args below meth c s₁ B hml hex hv
  obtain ⟨⟨rfl, rfl, hP, hK, hD0, hN⟩, hX⟩ := hv
  have hx := B.exec
  have hb := B.bytes
  have hr := B.returns
  have hts := atoms_spec (ws := wsX4_set) B.pre
  have hown : s.vm.findClass RX4 = some m.cls := findClass_of_methodNamed B.named
  have hlocks := B.notSynchronized
  have hD := hD0.self (sz := s.heap.size)
  have hA : ∀ q : Nat, s.heap.size ≤ q → va_A (wO Xp Bp Tp Cp Rp ++ (wH E Cp sz nw pf ++ (wP E Bp g z lo up pk ++ (wP E Tp g2 z2 lo2 up2 pk2 ++ (wR E Rp ln cd))))) s.heap.size q := fun q h => Or.inr h
  have hS : va_S (va_A (wO Xp Bp Tp Cp Rp ++ (wH E Cp sz nw pf ++ (wP E Bp g z lo up pk ++ (wP E Tp g2 z2 lo2 up2 pk2 ++ (wR E Rp ln cd))))) s.heap.size) s.heap s.heap [] := va_S.rf
  have hl := lv_entry ([.ref Xp, .int v1, .int v2]) (n := 4) (Nat.le_of_ble_eq_true rfl)
  rw [lg_entry_eq]
  generalize (lg_sl ([.ref Xp, .int v1, .int v2]) ++ List.replicate (4 - (lg_sl ([.ref Xp, .int v1, .int v2])).length) Slot.unset).toArray = ls at hl ⊢
  have hl : lv_has ls 4 [(0, .ref Xp), (1, .int v1), (2, .int v2)] := hl
  refine lv_iload_n hx hb dX4_set_0 rfl (lv_at hl 1 rfl) ?_
  refine gsPi (As := [.int v1]) (rest := []) ⟨hx, hb, hml, hown, hts⟩ (c_X4_isSetting l E v1) (va_cwS 1 hts gX4_set_X4_isSetting rfl rfl rfl (by decide +kernel) ⟨Nat.le_of_ble_eq_true rfl, Nat.le_of_ble_eq_true rfl⟩) hP hK hD hN hS hA rfl hl.1 rfl (Nat.le_of_ble_eq_true rfl) dX4_set_1 ⟨Nat.zero_le _, Nat.zero_le _⟩ (fun H locs hP hD hS => ?_)
  refine lv_if_ne (tgt := 17) hx hb dX4_set_4 (by decide) (fun c_4 => absurd hv c_4) (fun c_4 => ?_)
  exact gthrow hx hb hst hown rfl (hts (.classLink RX4 56 "java/lang/IndexOutOfBoundsException") (List.mem_of_getElem? (i := 1) rfl)) (hts (.initialized "java/lang/IndexOutOfBoundsException") (List.mem_of_getElem? (i := 2) rfl)) (List.mem_of_getElem? (i := 1) rfl) (fun w9 h9 => hts w9 (List.mem_cons_of_mem _ (List.mem_append_left _ (List.mem_append_right _ h9)))) th_ngO hX.2.2.2.2.2.2.1.2.2.2.2.2 th_otO hX hP hD hS (hl.1.trans hml.symm) dX4_set_7 dX4_set_10 dX4_set_11 dX4_set_13 dX4_set_16 hex (Nat.le_of_ble_eq_true rfl) (Nat.le_of_ble_eq_true rfl) (Nat.le_of_ble_eq_true rfl) (Nat.le_of_ble_eq_true rfl) hlocks

set_option maxHeartbeats 4000000 in
set_option maxRecDepth 100000 in
theorem t_X4_set2 (l : Launch) (hst : l.stackTraces = false) (E : EE) (Sp : Nat → Nat) (Xp : Nat) (Cp : Nat → Nat) (sz nw : Int32) (pf : Nat → Int32) (Bp : Nat → Nat) (g z : Nat → Int32) (lo up pk : Int32) (Tp : Nat → Nat) (g2 z2 : Nat → Int32) (lo2 up2 pk2 : Int32) (Rp : Nat → Nat) (ln : Int32) (cd : Nat → Int32) (v1 v2 : Int32) (hin : ¬ inRg v1 0 14 = 0) (hv : fitI v1 v2 = 0) : GT l yX4_set wsX4_set 6 82 E Sp (wO Xp Bp Tp Cp Rp ++ (wH E Cp sz nw pf ++ (wP E Bp g z lo up pk ++ (wP E Tp g2 z2 lo2 up2 pk2 ++ (wR E Rp ln cd))))) [.ref Xp, .int v1, .int v2] IAE := by
  intro sz
  refine vx_ofW (cc := cX4_set) (maxL := 4) (ret := (some .int)) (by decide) rfl ?_
  intro p e s m args below meth c s₁ B hml hex hv
  obtain ⟨⟨rfl, rfl, hP, hK, hD0, hN⟩, hX⟩ := hv
  have hx := B.exec
  have hb := B.bytes
  have hr := B.returns
  have hts := atoms_spec (ws := wsX4_set) B.pre
  have hown : s.vm.findClass RX4 = some m.cls := findClass_of_methodNamed B.named
  have hlocks := B.notSynchronized
  have hD := hD0.self (sz := s.heap.size)
  have hA : ∀ q : Nat, s.heap.size ≤ q → va_A (wO Xp Bp Tp Cp Rp ++ (wH E Cp sz nw pf ++ (wP E Bp g z lo up pk ++ (wP E Tp g2 z2 lo2 up2 pk2 ++ (wR E Rp ln cd))))) s.heap.size q := fun q h => Or.inr h
  have hS : va_S (va_A (wO Xp Bp Tp Cp Rp ++ (wH E Cp sz nw pf ++ (wP E Bp g z lo up pk ++ (wP E Tp g2 z2 lo2 up2 pk2 ++ (wR E Rp ln cd))))) s.heap.size) s.heap s.heap [] := va_S.rf
  have hl := lv_entry ([.ref Xp, .int v1, .int v2]) (n := 4) (Nat.le_of_ble_eq_true rfl)
  rw [lg_entry_eq]
  generalize (lg_sl ([.ref Xp, .int v1, .int v2]) ++ List.replicate (4 - (lg_sl ([.ref Xp, .int v1, .int v2])).length) Slot.unset).toArray = ls at hl ⊢
  have hl : lv_has ls 4 [(0, .ref Xp), (1, .int v1), (2, .int v2)] := hl
  refine lv_iload_n hx hb dX4_set_0 rfl (lv_at hl 1 rfl) ?_
  refine gsPi (As := [.int v1]) (rest := []) ⟨hx, hb, hml, hown, hts⟩ (c_X4_isSetting l E v1) (va_cwS 1 hts gX4_set_X4_isSetting rfl rfl rfl (by decide +kernel) ⟨Nat.le_of_ble_eq_true rfl, Nat.le_of_ble_eq_true rfl⟩) hP hK hD hN hS hA rfl hl.1 rfl (Nat.le_of_ble_eq_true rfl) dX4_set_1 ⟨Nat.zero_le _, Nat.zero_le _⟩ (fun H locs hP hD hS => ?_)
  refine lv_if_ne (tgt := 17) hx hb dX4_set_4 (by decide) (fun c_4 => ?_) (fun c_4 => absurd c_4 hin)
  refine lv_iload_n hx hb dX4_set_17 rfl (lv_at hl 1 rfl) ?_
  refine lv_iload_n hx hb dX4_set_18 rfl (lv_at hl 2 rfl) ?_
  refine xsPi (As := [.int v1, .int v2]) (rest := []) ⟨hx, hb, hml, hown, hts⟩ (c_X4_fits l E Sp v1 v2) (va_cwS 2 hts gX4_set_X4_fits rfl rfl rfl (by decide +kernel) ⟨Nat.le_of_ble_eq_true rfl, Nat.le_of_ble_eq_true rfl⟩) hP hK hD hN hX hS hA rfl hl.1 rfl (Nat.le_of_ble_eq_true rfl) dX4_set_19 ⟨Nat.zero_le _, Nat.zero_le _⟩ (fun H locs hP hD hS => ?_)
  refine lv_if_ne (tgt := 35) hx hb dX4_set_22 (by decide) (fun c_22 => absurd hv c_22) (fun c_22 => ?_)
  exact gthrow hx hb hst hown rfl (hts (.classLink RX4 35 "java/lang/IllegalArgumentException") (List.mem_of_getElem? (i := 3) rfl)) (hts (.initialized "java/lang/IllegalArgumentException") (List.mem_of_getElem? (i := 4) rfl)) (List.mem_of_getElem? (i := 2) rfl) (fun w9 h9 => hts w9 (List.mem_cons_of_mem _ (List.mem_append_right _ h9))) th_ngA hX.2.2.2.2.2.2.1.2.2.2.1 th_otA hX hP hD hS (hl.1.trans hml.symm) dX4_set_25 dX4_set_28 dX4_set_29 dX4_set_31 dX4_set_34 hex (Nat.le_of_ble_eq_true rfl) (Nat.le_of_ble_eq_true rfl) (Nat.le_of_ble_eq_true rfl) (Nat.le_of_ble_eq_true rfl) hlocks

set_option maxHeartbeats 4000000 in
set_option maxRecDepth 100000 in
theorem t_X4_setting (l : Launch) (hst : l.stackTraces = false) (E : EE) (Sp : Nat → Nat) (Xp : Nat) (Cp : Nat → Nat) (sz nw : Int32) (pf : Nat → Int32) (Bp : Nat → Nat) (g z : Nat → Int32) (lo up pk : Int32) (Tp : Nat → Nat) (g2 z2 : Nat → Int32) (lo2 up2 pk2 : Int32) (Rp : Nat → Nat) (ln : Int32) (cd : Nat → Int32) (v1 : Int32) (hv : inRg v1 0 14 = 0) : GT l yX4_setting wsX4_setting 6 82 E Sp (wO Xp Bp Tp Cp Rp ++ (wH E Cp sz nw pf ++ (wP E Bp g z lo up pk ++ (wP E Tp g2 z2 lo2 up2 pk2 ++ (wR E Rp ln cd))))) [.ref Xp, .int v1] IOE := by
  intro sz
  refine vx_ofW (cc := cX4_setting) (maxL := 2) (ret := (some .int)) (by decide) rfl ?_
  intro p e s m args below meth c s₁ B hml hex hv
  obtain ⟨⟨rfl, rfl, hP, hK, hD0, hN⟩, hX⟩ := hv
  have hx := B.exec
  have hb := B.bytes
  have hr := B.returns
  have hts := atoms_spec (ws := wsX4_setting) B.pre
  have hown : s.vm.findClass RX4 = some m.cls := findClass_of_methodNamed B.named
  have hlocks := B.notSynchronized
  have hD := hD0.self (sz := s.heap.size)
  have hA : ∀ q : Nat, s.heap.size ≤ q → va_A (wO Xp Bp Tp Cp Rp ++ (wH E Cp sz nw pf ++ (wP E Bp g z lo up pk ++ (wP E Tp g2 z2 lo2 up2 pk2 ++ (wR E Rp ln cd))))) s.heap.size q := fun q h => Or.inr h
  have hS : va_S (va_A (wO Xp Bp Tp Cp Rp ++ (wH E Cp sz nw pf ++ (wP E Bp g z lo up pk ++ (wP E Tp g2 z2 lo2 up2 pk2 ++ (wR E Rp ln cd))))) s.heap.size) s.heap s.heap [] := va_S.rf
  have hl := lv_entry ([.ref Xp, .int v1]) (n := 2) (Nat.le_of_ble_eq_true rfl)
  rw [lg_entry_eq]
  generalize (lg_sl ([.ref Xp, .int v1]) ++ List.replicate (2 - (lg_sl ([.ref Xp, .int v1])).length) Slot.unset).toArray = ls at hl ⊢
  have hl : lv_has ls 2 [(0, .ref Xp), (1, .int v1)] := hl
  refine lv_iload_n hx hb dX4_setting_0 rfl (lv_at hl 1 rfl) ?_
  refine gsPi (As := [.int v1]) (rest := []) ⟨hx, hb, hml, hown, hts⟩ (c_X4_isSetting l E v1) (va_cwS 1 hts gX4_setting_X4_isSetting rfl rfl rfl (by decide +kernel) ⟨Nat.le_of_ble_eq_true rfl, Nat.le_of_ble_eq_true rfl⟩) hP hK hD hN hS hA rfl hl.1 rfl (Nat.le_of_ble_eq_true rfl) dX4_setting_1 ⟨Nat.zero_le _, Nat.zero_le _⟩ (fun H locs hP hD hS => ?_)
  refine lv_if_ne (tgt := 17) hx hb dX4_setting_4 (by decide) (fun c_4 => absurd hv c_4) (fun c_4 => ?_)
  exact gthrow hx hb hst hown rfl (hts (.classLink RX4 56 "java/lang/IndexOutOfBoundsException") (List.mem_of_getElem? (i := 1) rfl)) (hts (.initialized "java/lang/IndexOutOfBoundsException") (List.mem_of_getElem? (i := 2) rfl)) (List.mem_of_getElem? (i := 1) rfl) (fun w9 h9 => hts w9 (List.mem_cons_of_mem _ (List.mem_append_right _ h9))) th_ngO hX.2.2.2.2.2.2.1.2.2.2.2.2 th_otO hX hP hD hS (hl.1.trans hml.symm) dX4_setting_7 dX4_setting_10 dX4_setting_11 dX4_setting_13 dX4_setting_16 hex (Nat.le_of_ble_eq_true rfl) (Nat.le_of_ble_eq_true rfl) (Nat.le_of_ble_eq_true rfl) (Nat.le_of_ble_eq_true rfl) hlocks

set_option maxHeartbeats 4000000 in
set_option maxRecDepth 100000 in
theorem t_X4_start (l : Launch) (hst : l.stackTraces = false) (E : EE) (Sp : Nat → Nat) (Xp : Nat) (Cp : Nat → Nat) (sz nw : Int32) (pf : Nat → Int32) (Bp : Nat → Nat) (g z : Nat → Int32) (lo up pk : Int32) (Tp : Nat → Nat) (g2 z2 : Nat → Int32) (lo2 up2 pk2 : Int32) (Rp : Nat → Nat) (ln : Int32) (cd : Nat → Int32) (hv : ¬ runsI z = 0) : GT l yX4_start wsX4_start 6 82 E Sp (wO Xp Bp Tp Cp Rp ++ (wH E Cp sz nw pf ++ (wP E Bp g z lo up pk ++ (wP E Tp g2 z2 lo2 up2 pk2 ++ (wR E Rp ln cd))))) [.ref Xp] ISE := by
  intro sz
  refine vx_ofW (cc := cX4_start) (maxL := 1) (ret := (some .int)) (by decide) rfl ?_
  intro p e s m args below meth c s₁ B hml hex hv
  obtain ⟨⟨rfl, rfl, hP, hK, hD0, hN⟩, hX⟩ := hv
  have hx := B.exec
  have hb := B.bytes
  have hr := B.returns
  have hts := atoms_spec (ws := wsX4_start) B.pre
  have hown : s.vm.findClass RX4 = some m.cls := findClass_of_methodNamed B.named
  have hlocks := B.notSynchronized
  have hD := hD0.self (sz := s.heap.size)
  have hA : ∀ q : Nat, s.heap.size ≤ q → va_A (wO Xp Bp Tp Cp Rp ++ (wH E Cp sz nw pf ++ (wP E Bp g z lo up pk ++ (wP E Tp g2 z2 lo2 up2 pk2 ++ (wR E Rp ln cd))))) s.heap.size q := fun q h => Or.inr h
  have hS : va_S (va_A (wO Xp Bp Tp Cp Rp ++ (wH E Cp sz nw pf ++ (wP E Bp g z lo up pk ++ (wP E Tp g2 z2 lo2 up2 pk2 ++ (wR E Rp ln cd))))) s.heap.size) s.heap s.heap [] := va_S.rf
  have hl := lv_entry ([.ref Xp]) (n := 1) (Nat.le_of_ble_eq_true rfl)
  rw [lg_entry_eq]
  generalize (lg_sl ([.ref Xp]) ++ List.replicate (1 - (lg_sl ([.ref Xp])).length) Slot.unset).toArray = ls at hl ⊢
  have hl : lv_has ls 1 [(0, .ref Xp)] := hl
  have hf14 := hts (.fieldLink RX4 14 "PhaseConverter" "plant" "LPhaseConverter$Plant;") (List.mem_of_getElem? (i := 3) rfl)
  have hiX4 : ∀ w ∈ u_ws RX4 TX4 4, w ∈ wsX4_start := memIn [24, 25, 26, 27] rfl
  refine lv_aload_n hx hb dX4_start_0 rfl (lv_at hl 0 rfl) ?_
  refine va_get (D := E.1) (ci := 4) (v := .ref (Bp 0)) (C := RX4) (T := TX4) (N := 4) hx hb hts hiX4 hown hK hP 0 rfl rfl 0 (by decide) hf14 (fun _ h9 => h9) rfl dX4_start_1 ?_
  refine gvMi (wO Xp Bp Tp Cp Rp ++ (wH E Cp sz nw pf)) (wP E Tp g2 z2 lo2 up2 pk2 ++ (wR E Rp ln cd)) (As := []) (rest := []) ⟨hx, hb, hml, hown, hts⟩ (c_X2_runs l E Bp g z lo up pk) (cwV 0 hts gX4_start_X2_runs rfl rfl rfl (by decide +kernel) ⟨Nat.le_of_ble_eq_true rfl, Nat.le_of_ble_eq_true rfl⟩) (va_recv hK hP (ci := 2) (q0 := 3) rfl rfl) hP hK hD hN hS hA rfl hl.1 rfl (Nat.le_of_ble_eq_true rfl) dX4_start_4 ⟨Nat.zero_le _, Nat.zero_le _⟩ (fun H locs hP hD hS => ?_)
  have hP : va_P E.1 vwCl (wO Xp Bp Tp Cp Rp ++ (wH E Cp sz nw pf ++ (wP E Bp g z lo up pk ++ (wP E Tp g2 z2 lo2 up2 pk2 ++ (wR E Rp ln cd))))) H := hP
  have hD : va_D _ (wO Xp Bp Tp Cp Rp ++ (wH E Cp sz nw pf ++ (wP E Bp g z lo up pk ++ (wP E Tp g2 z2 lo2 up2 pk2 ++ (wR E Rp ln cd))))) := hD
  refine lv_if_eq (tgt := 20) hx hb dX4_start_7 (by decide) (fun c_7 => absurd c_7 hv) (fun c_7 => ?_)
  exact gthrow hx hb hst hown rfl (hts (.classLink RX4 75 "java/lang/IllegalStateException") (List.mem_of_getElem? (i := 1) rfl)) (hts (.initialized "java/lang/IllegalStateException") (List.mem_of_getElem? (i := 2) rfl)) (List.mem_of_getElem? (i := 3) rfl) (fun w9 h9 => hts w9 (List.mem_cons_of_mem _ (List.mem_append_right _ h9))) th_ngS hX.2.2.2.2.2.2.1.2.2.2.2.1 th_otS hX hP hD hS (hl.1.trans hml.symm) dX4_start_10 dX4_start_13 dX4_start_14 dX4_start_16 dX4_start_19 hex (Nat.le_of_ble_eq_true rfl) (Nat.le_of_ble_eq_true rfl) (Nat.le_of_ble_eq_true rfl) (Nat.le_of_ble_eq_true rfl) hlocks

set_option maxHeartbeats 4000000 in
set_option maxRecDepth 100000 in
theorem t_X4_run1 (l : Launch) (hst : l.stackTraces = false) (E : EE) (Sp : Nat → Nat) (Xp : Nat) (Cp : Nat → Nat) (sz nw : Int32) (pf : Nat → Int32) (Bp : Nat → Nat) (g z : Nat → Int32) (lo up pk : Int32) (Tp : Nat → Nat) (g2 z2 : Nat → Int32) (lo2 up2 pk2 : Int32) (Rp : Nat → Nat) (ln : Int32) (cd : Nat → Int32) (v1 : Int32) (hv : inRg v1 1 200 = 0) : GT l yX4_run wsX4_run 6 82 E Sp (wO Xp Bp Tp Cp Rp ++ (wH E Cp sz nw pf ++ (wP E Bp g z lo up pk ++ (wP E Tp g2 z2 lo2 up2 pk2 ++ (wR E Rp ln cd))))) [.ref Xp, .int v1] IAE := by
  intro sz
  refine vx_ofW (cc := cX4_run) (maxL := 2) (ret := (some .int)) (by decide) rfl ?_
  intro p e s m args below meth c s₁ B hml hex hv
  obtain ⟨⟨rfl, rfl, hP, hK, hD0, hN⟩, hX⟩ := hv
  have hx := B.exec
  have hb := B.bytes
  have hr := B.returns
  have hts := atoms_spec (ws := wsX4_run) B.pre
  have hown : s.vm.findClass RX4 = some m.cls := findClass_of_methodNamed B.named
  have hlocks := B.notSynchronized
  have hD := hD0.self (sz := s.heap.size)
  have hA : ∀ q : Nat, s.heap.size ≤ q → va_A (wO Xp Bp Tp Cp Rp ++ (wH E Cp sz nw pf ++ (wP E Bp g z lo up pk ++ (wP E Tp g2 z2 lo2 up2 pk2 ++ (wR E Rp ln cd))))) s.heap.size q := fun q h => Or.inr h
  have hS : va_S (va_A (wO Xp Bp Tp Cp Rp ++ (wH E Cp sz nw pf ++ (wP E Bp g z lo up pk ++ (wP E Tp g2 z2 lo2 up2 pk2 ++ (wR E Rp ln cd))))) s.heap.size) s.heap s.heap [] := va_S.rf
  have hl := lv_entry ([.ref Xp, .int v1]) (n := 2) (Nat.le_of_ble_eq_true rfl)
  rw [lg_entry_eq]
  generalize (lg_sl ([.ref Xp, .int v1]) ++ List.replicate (2 - (lg_sl ([.ref Xp, .int v1])).length) Slot.unset).toArray = ls at hl ⊢
  have hl : lv_has ls 2 [(0, .ref Xp), (1, .int v1)] := hl
  refine lv_iload_n hx hb dX4_run_0 rfl (lv_at hl 1 rfl) ?_
  refine gsPi (As := [.int v1]) (rest := []) ⟨hx, hb, hml, hown, hts⟩ (c_X4_isRunLength l E v1) (va_cwS 1 hts gX4_run_X4_isRunLength rfl rfl rfl (by decide +kernel) ⟨Nat.le_of_ble_eq_true rfl, Nat.le_of_ble_eq_true rfl⟩) hP hK hD hN hS hA rfl hl.1 rfl (Nat.le_of_ble_eq_true rfl) dX4_run_1 ⟨Nat.zero_le _, Nat.zero_le _⟩ (fun H locs hP hD hS => ?_)
  refine lv_if_ne (tgt := 17) hx hb dX4_run_4 (by decide) (fun c_4 => absurd hv c_4) (fun c_4 => ?_)
  exact gthrow hx hb hst hown rfl (hts (.classLink RX4 35 "java/lang/IllegalArgumentException") (List.mem_of_getElem? (i := 1) rfl)) (hts (.initialized "java/lang/IllegalArgumentException") (List.mem_of_getElem? (i := 2) rfl)) (List.mem_of_getElem? (i := 4) rfl) (fun w9 h9 => hts w9 (List.mem_cons_of_mem _ (List.mem_append_left _ (List.mem_append_right _ h9)))) th_ngA hX.2.2.2.2.2.2.1.2.2.2.1 th_otA hX hP hD hS (hl.1.trans hml.symm) dX4_run_7 dX4_run_10 dX4_run_11 dX4_run_13 dX4_run_16 hex (Nat.le_of_ble_eq_true rfl) (Nat.le_of_ble_eq_true rfl) (Nat.le_of_ble_eq_true rfl) (Nat.le_of_ble_eq_true rfl) hlocks

set_option maxHeartbeats 4000000 in
set_option maxRecDepth 100000 in
theorem t_X4_run2 (l : Launch) (hst : l.stackTraces = false) (E : EE) (Sp : Nat → Nat) (Xp : Nat) (Cp : Nat → Nat) (sz nw : Int32) (pf : Nat → Int32) (Bp : Nat → Nat) (g z : Nat → Int32) (lo up pk : Int32) (Tp : Nat → Nat) (g2 z2 : Nat → Int32) (lo2 up2 pk2 : Int32) (Rp : Nat → Nat) (ln : Int32) (cd : Nat → Int32) (v1 : Int32) (hin : ¬ inRg v1 1 200 = 0) (hv : romI v1 z = 0) : GT l yX4_run wsX4_run 6 82 E Sp (wO Xp Bp Tp Cp Rp ++ (wH E Cp sz nw pf ++ (wP E Bp g z lo up pk ++ (wP E Tp g2 z2 lo2 up2 pk2 ++ (wR E Rp ln cd))))) [.ref Xp, .int v1] ISE := by
  intro sz
  refine vx_ofW (cc := cX4_run) (maxL := 2) (ret := (some .int)) (by decide) rfl ?_
  intro p e s m args below meth c s₁ B hml hex hv
  obtain ⟨⟨rfl, rfl, hP, hK, hD0, hN⟩, hX⟩ := hv
  have hx := B.exec
  have hb := B.bytes
  have hr := B.returns
  have hts := atoms_spec (ws := wsX4_run) B.pre
  have hown : s.vm.findClass RX4 = some m.cls := findClass_of_methodNamed B.named
  have hlocks := B.notSynchronized
  have hD := hD0.self (sz := s.heap.size)
  have hA : ∀ q : Nat, s.heap.size ≤ q → va_A (wO Xp Bp Tp Cp Rp ++ (wH E Cp sz nw pf ++ (wP E Bp g z lo up pk ++ (wP E Tp g2 z2 lo2 up2 pk2 ++ (wR E Rp ln cd))))) s.heap.size q := fun q h => Or.inr h
  have hS : va_S (va_A (wO Xp Bp Tp Cp Rp ++ (wH E Cp sz nw pf ++ (wP E Bp g z lo up pk ++ (wP E Tp g2 z2 lo2 up2 pk2 ++ (wR E Rp ln cd))))) s.heap.size) s.heap s.heap [] := va_S.rf
  have hl := lv_entry ([.ref Xp, .int v1]) (n := 2) (Nat.le_of_ble_eq_true rfl)
  rw [lg_entry_eq]
  generalize (lg_sl ([.ref Xp, .int v1]) ++ List.replicate (2 - (lg_sl ([.ref Xp, .int v1])).length) Slot.unset).toArray = ls at hl ⊢
  have hl : lv_has ls 2 [(0, .ref Xp), (1, .int v1)] := hl
  refine lv_iload_n hx hb dX4_run_0 rfl (lv_at hl 1 rfl) ?_
  refine gsPi (As := [.int v1]) (rest := []) ⟨hx, hb, hml, hown, hts⟩ (c_X4_isRunLength l E v1) (va_cwS 1 hts gX4_run_X4_isRunLength rfl rfl rfl (by decide +kernel) ⟨Nat.le_of_ble_eq_true rfl, Nat.le_of_ble_eq_true rfl⟩) hP hK hD hN hS hA rfl hl.1 rfl (Nat.le_of_ble_eq_true rfl) dX4_run_1 ⟨Nat.zero_le _, Nat.zero_le _⟩ (fun H locs hP hD hS => ?_)
  refine lv_if_ne (tgt := 17) hx hb dX4_run_4 (by decide) (fun c_4 => ?_) (fun c_4 => absurd c_4 hin)
  refine lv_aload_n hx hb dX4_run_17 rfl (lv_at hl 0 rfl) ?_
  refine lv_iload_n hx hb dX4_run_18 rfl (lv_at hl 1 rfl) ?_
  refine gv0i (As := [.int v1]) (rest := []) ⟨hx, hb, hml, hown, hts⟩ (c_X4_hasRoomFor l E Xp Cp sz nw pf Bp g z lo up pk Tp g2 z2 lo2 up2 pk2 Rp ln cd v1) (cwV 1 hts gX4_run_X4_hasRoomFor rfl rfl rfl (by decide +kernel) ⟨Nat.le_of_ble_eq_true rfl, Nat.le_of_ble_eq_true rfl⟩) (va_recv hK hP (ci := 4) (q0 := 0) rfl rfl) hP hK hD hN hS hA rfl hl.1 rfl (Nat.le_of_ble_eq_true rfl) dX4_run_19 ⟨Nat.zero_le _, Nat.zero_le _⟩ (fun H locs hP hD hS => ?_)
  have hP : va_P E.1 vwCl (wO Xp Bp Tp Cp Rp ++ (wH E Cp sz nw pf ++ (wP E Bp g z lo up pk ++ (wP E Tp g2 z2 lo2 up2 pk2 ++ (wR E Rp ln cd))))) H := hP
  have hD : va_D _ (wO Xp Bp Tp Cp Rp ++ (wH E Cp sz nw pf ++ (wP E Bp g z lo up pk ++ (wP E Tp g2 z2 lo2 up2 pk2 ++ (wR E Rp ln cd))))) := hD
  refine lv_if_ne (tgt := 35) hx hb dX4_run_22 (by decide) (fun c_22 => absurd hv c_22) (fun c_22 => ?_)
  exact gthrow hx hb hst hown rfl (hts (.classLink RX4 75 "java/lang/IllegalStateException") (List.mem_of_getElem? (i := 3) rfl)) (hts (.initialized "java/lang/IllegalStateException") (List.mem_of_getElem? (i := 4) rfl)) (List.mem_of_getElem? (i := 5) rfl) (fun w9 h9 => hts w9 (List.mem_cons_of_mem _ (List.mem_append_right _ h9))) th_ngS hX.2.2.2.2.2.2.1.2.2.2.2.1 th_otS hX hP hD hS (hl.1.trans hml.symm) dX4_run_25 dX4_run_28 dX4_run_29 dX4_run_31 dX4_run_34 hex (Nat.le_of_ble_eq_true rfl) (Nat.le_of_ble_eq_true rfl) (Nat.le_of_ble_eq_true rfl) (Nat.le_of_ble_eq_true rfl) hlocks

set_option maxHeartbeats 4000000 in
set_option maxRecDepth 100000 in
theorem t_X4_append1 (l : Launch) (hst : l.stackTraces = false) (E : EE) (Sp : Nat → Nat) (Xp : Nat) (Cp : Nat → Nat) (sz nw : Int32) (pf : Nat → Int32) (Bp : Nat → Nat) (g z : Nat → Int32) (lo up pk : Int32) (Tp : Nat → Nat) (g2 z2 : Nat → Int32) (lo2 up2 pk2 : Int32) (Rp : Nat → Nat) (ln : Int32) (cd : Nat → Int32) (v1 : Int32) (hv : inRg v1 33 126 = 0) : GT l yX4_append wsX4_append 6 82 E Sp (wO Xp Bp Tp Cp Rp ++ (wH E Cp sz nw pf ++ (wP E Bp g z lo up pk ++ (wP E Tp g2 z2 lo2 up2 pk2 ++ (wR E Rp ln cd))))) [.ref Xp, .int v1] IAE := by
  intro sz
  refine vx_ofW (cc := cX4_append) (maxL := 2) (ret := (some .int)) (by decide) rfl ?_
  intro p e s m args below meth c s₁ B hml hex hv
  obtain ⟨⟨rfl, rfl, hP, hK, hD0, hN⟩, hX⟩ := hv
  have hx := B.exec
  have hb := B.bytes
  have hr := B.returns
  have hts := atoms_spec (ws := wsX4_append) B.pre
  have hown : s.vm.findClass RX4 = some m.cls := findClass_of_methodNamed B.named
  have hlocks := B.notSynchronized
  have hD := hD0.self (sz := s.heap.size)
  have hA : ∀ q : Nat, s.heap.size ≤ q → va_A (wO Xp Bp Tp Cp Rp ++ (wH E Cp sz nw pf ++ (wP E Bp g z lo up pk ++ (wP E Tp g2 z2 lo2 up2 pk2 ++ (wR E Rp ln cd))))) s.heap.size q := fun q h => Or.inr h
  have hS : va_S (va_A (wO Xp Bp Tp Cp Rp ++ (wH E Cp sz nw pf ++ (wP E Bp g z lo up pk ++ (wP E Tp g2 z2 lo2 up2 pk2 ++ (wR E Rp ln cd))))) s.heap.size) s.heap s.heap [] := va_S.rf
  have hl := lv_entry ([.ref Xp, .int v1]) (n := 2) (Nat.le_of_ble_eq_true rfl)
  rw [lg_entry_eq]
  generalize (lg_sl ([.ref Xp, .int v1]) ++ List.replicate (2 - (lg_sl ([.ref Xp, .int v1])).length) Slot.unset).toArray = ls at hl ⊢
  have hl : lv_has ls 2 [(0, .ref Xp), (1, .int v1)] := hl
  refine lv_iload_n hx hb dX4_append_0 rfl (lv_at hl 1 rfl) ?_
  refine lv_bipush (v := 33) hx hb dX4_append_1 (by decide) ?_
  refine lv_icmp_lt (tgt := 12) hx hb dX4_append_3 (by decide) (fun c_3 => ?_) (fun c_3 => ?_)
  · exact gthrow hx hb hst hown rfl (hts (.classLink RX4 35 "java/lang/IllegalArgumentException") (List.mem_of_getElem? (i := 1) rfl)) (hts (.initialized "java/lang/IllegalArgumentException") (List.mem_of_getElem? (i := 2) rfl)) (List.mem_of_getElem? (i := 6) rfl) (fun w9 h9 => hts w9 (List.mem_cons_of_mem _ (List.mem_append_left _ (List.mem_append_right _ h9)))) th_ngA hX.2.2.2.2.2.2.1.2.2.2.1 th_otA hX hP hD hS (hl.1.trans hml.symm) dX4_append_12 dX4_append_15 dX4_append_16 dX4_append_18 dX4_append_21 hex (Nat.le_of_ble_eq_true rfl) (Nat.le_of_ble_eq_true rfl) (Nat.le_of_ble_eq_true rfl) (Nat.le_of_ble_eq_true rfl) hlocks
  · refine lv_iload_n hx hb dX4_append_6 rfl (lv_at hl 1 rfl) ?_
    refine lv_bipush (v := 126) hx hb dX4_append_7 (by decide) ?_
    refine lv_icmp_le (tgt := 22) hx hb dX4_append_9 (by decide) (fun c_9 => absurd c_9 (Int32.not_le.mpr (inRg_hi hv c_3))) (fun c_9 => ?_)
    exact gthrow hx hb hst hown rfl (hts (.classLink RX4 35 "java/lang/IllegalArgumentException") (List.mem_of_getElem? (i := 1) rfl)) (hts (.initialized "java/lang/IllegalArgumentException") (List.mem_of_getElem? (i := 2) rfl)) (List.mem_of_getElem? (i := 6) rfl) (fun w9 h9 => hts w9 (List.mem_cons_of_mem _ (List.mem_append_left _ (List.mem_append_right _ h9)))) th_ngA hX.2.2.2.2.2.2.1.2.2.2.1 th_otA hX hP hD hS (hl.1.trans hml.symm) dX4_append_12 dX4_append_15 dX4_append_16 dX4_append_18 dX4_append_21 hex (Nat.le_of_ble_eq_true rfl) (Nat.le_of_ble_eq_true rfl) (Nat.le_of_ble_eq_true rfl) (Nat.le_of_ble_eq_true rfl) hlocks

set_option maxHeartbeats 4000000 in
set_option maxRecDepth 100000 in
theorem t_X4_append2 (l : Launch) (hst : l.stackTraces = false) (E : EE) (Sp : Nat → Nat) (Xp : Nat) (Cp : Nat → Nat) (sz nw : Int32) (pf : Nat → Int32) (Bp : Nat → Nat) (g z : Nat → Int32) (lo up pk : Int32) (Tp : Nat → Nat) (g2 z2 : Nat → Int32) (lo2 up2 pk2 : Int32) (Rp : Nat → Nat) (ln : Int32) (cd : Nat → Int32) (v1 : Int32) (L : Nat) (hin : ¬ inRg v1 33 126 = 0) (hL : ln = nI L) (hL5 : L = 50) : GT l yX4_append wsX4_append 6 82 E Sp (wO Xp Bp Tp Cp Rp ++ (wH E Cp sz nw pf ++ (wP E Bp g z lo up pk ++ (wP E Tp g2 z2 lo2 up2 pk2 ++ (wR E Rp ln cd))))) [.ref Xp, .int v1] ISE := by
  intro sz
  refine vx_ofW (cc := cX4_append) (maxL := 2) (ret := (some .int)) (by decide) rfl ?_
  intro p e s m args below meth c s₁ B hml hex hv
  obtain ⟨⟨rfl, rfl, hP, hK, hD0, hN⟩, hX⟩ := hv
  have hx := B.exec
  have hb := B.bytes
  have hr := B.returns
  have hts := atoms_spec (ws := wsX4_append) B.pre
  have hown : s.vm.findClass RX4 = some m.cls := findClass_of_methodNamed B.named
  have hlocks := B.notSynchronized
  have hD := hD0.self (sz := s.heap.size)
  have hA : ∀ q : Nat, s.heap.size ≤ q → va_A (wO Xp Bp Tp Cp Rp ++ (wH E Cp sz nw pf ++ (wP E Bp g z lo up pk ++ (wP E Tp g2 z2 lo2 up2 pk2 ++ (wR E Rp ln cd))))) s.heap.size q := fun q h => Or.inr h
  have hS : va_S (va_A (wO Xp Bp Tp Cp Rp ++ (wH E Cp sz nw pf ++ (wP E Bp g z lo up pk ++ (wP E Tp g2 z2 lo2 up2 pk2 ++ (wR E Rp ln cd))))) s.heap.size) s.heap s.heap [] := va_S.rf
  have hl := lv_entry ([.ref Xp, .int v1]) (n := 2) (Nat.le_of_ble_eq_true rfl)
  rw [lg_entry_eq]
  generalize (lg_sl ([.ref Xp, .int v1]) ++ List.replicate (2 - (lg_sl ([.ref Xp, .int v1])).length) Slot.unset).toArray = ls at hl ⊢
  have hl : lv_has ls 2 [(0, .ref Xp), (1, .int v1)] := hl
  have hf31 := hts (.fieldLink RX4 31 "PhaseConverter" "program" "LPhaseConverter$Program;") (List.mem_of_getElem? (i := 5) rfl)
  have hiX4 : ∀ w ∈ u_ws RX4 TX4 4, w ∈ wsX4_append := memIn [14, 15, 16, 17] rfl
  have hlt : ¬ ln < 50 := by rw [hL, hL5]; decide
  refine lv_iload_n hx hb dX4_append_0 rfl (lv_at hl 1 rfl) ?_
  refine lv_bipush (v := 33) hx hb dX4_append_1 (by decide) ?_
  refine lv_icmp_lt (tgt := 12) hx hb dX4_append_3 (by decide) (fun c_3 => absurd c_3 ((inRg_ok hin).1)) (fun c_3 => ?_)
  refine lv_iload_n hx hb dX4_append_6 rfl (lv_at hl 1 rfl) ?_
  refine lv_bipush (v := 126) hx hb dX4_append_7 (by decide) ?_
  refine lv_icmp_le (tgt := 22) hx hb dX4_append_9 (by decide) (fun c_9 => ?_) (fun c_9 => absurd (Int32.not_lt.mp (inRg_ok hin).2) c_9)
  refine lv_aload_n hx hb dX4_append_22 rfl (lv_at hl 0 rfl) ?_
  refine va_get (D := E.1) (ci := 4) (v := .ref (Rp 0)) (C := RX4) (T := TX4) (N := 4) hx hb hts hiX4 hown hK hP 0 rfl rfl 3 (by decide) hf31 (fun _ h9 => h9) rfl dX4_append_23 ?_
  refine lv_iload_n hx hb dX4_append_26 rfl (lv_at hl 1 rfl) ?_
  refine gvMi (wO Xp Bp Tp Cp Rp ++ (wH E Cp sz nw pf ++ (wP E Bp g z lo up pk ++ (wP E Tp g2 z2 lo2 up2 pk2)))) ([] : va_W) (As := [.int v1]) (rest := []) ⟨hx, hb, hml, hown, hts⟩ (c_X3_take l E Rp ln cd v1 L hL (by omega)) (cwV 1 hts gX4_append_X3_take rfl rfl rfl (by decide +kernel) ⟨Nat.le_of_ble_eq_true rfl, Nat.le_of_ble_eq_true rfl⟩) (va_recv hK hP (ci := 3) (q0 := 17) rfl rfl) hP hK hD hN hS hA rfl hl.1 rfl (Nat.le_of_ble_eq_true rfl) dX4_append_27 ⟨Nat.zero_le _, Nat.zero_le _⟩ (fun H locs hP hD hS => ?_)
  have hP : va_P E.1 vwCl (wO Xp Bp Tp Cp Rp ++ (wH E Cp sz nw pf ++ (wP E Bp g z lo up pk ++ (wP E Tp g2 z2 lo2 up2 pk2 ++ (wR E Rp (if ln < 50 then ln + 1 else ln) (if ln < 50 then upd cd L v1 else cd)))))) H := hP
  have hD : va_D _ (wO Xp Bp Tp Cp Rp ++ (wH E Cp sz nw pf ++ (wP E Bp g z lo up pk ++ (wP E Tp g2 z2 lo2 up2 pk2 ++ (wR E Rp (if ln < 50 then ln + 1 else ln) (if ln < 50 then upd cd L v1 else cd)))))) := hD
  have hw9 : wR E Rp (if ln < 50 then ln + 1 else ln) (if ln < 50 then upd cd L v1 else cd) = wR E Rp ln (if ln < 50 then upd cd L v1 else cd) := by rw [if_neg hlt]
  have hP : va_P E.1 vwCl (wO Xp Bp Tp Cp Rp ++ (wH E Cp sz nw pf ++ (wP E Bp g z lo up pk ++ (wP E Tp g2 z2 lo2 up2 pk2 ++ (wR E Rp ln (if ln < 50 then upd cd L v1 else cd)))))) H := Eq.mp (congrArg (fun y9 => va_P E.1 vwCl (wO Xp Bp Tp Cp Rp ++ (wH E Cp sz nw pf ++ (wP E Bp g z lo up pk ++ (wP E Tp g2 z2 lo2 up2 pk2 ++ (y9))))) H) hw9) hP
  have hD : va_D (va_A (wO Xp Bp Tp Cp Rp ++ (wH E Cp sz nw pf ++ (wP E Bp g z lo up pk ++ (wP E Tp g2 z2 lo2 up2 pk2 ++ (wR E Rp ln cd))))) s.heap.size) (wO Xp Bp Tp Cp Rp ++ (wH E Cp sz nw pf ++ (wP E Bp g z lo up pk ++ (wP E Tp g2 z2 lo2 up2 pk2 ++ (wR E Rp ln (if ln < 50 then upd cd L v1 else cd)))))) := Eq.mp (congrArg (fun y9 => va_D (va_A (wO Xp Bp Tp Cp Rp ++ (wH E Cp sz nw pf ++ (wP E Bp g z lo up pk ++ (wP E Tp g2 z2 lo2 up2 pk2 ++ (wR E Rp ln cd))))) s.heap.size) (wO Xp Bp Tp Cp Rp ++ (wH E Cp sz nw pf ++ (wP E Bp g z lo up pk ++ (wP E Tp g2 z2 lo2 up2 pk2 ++ (y9)))))) hw9) hD
  refine lv_if_ne (tgt := 43) hx hb dX4_append_30 (by decide) (fun c_30 => absurd (if_neg hlt) c_30) (fun c_30 => ?_)
  have hw9 : wR E Rp ln (if ln < 50 then upd cd L v1 else cd) = wR E Rp ln cd := by rw [if_neg hlt]
  have hP : va_P E.1 vwCl (wO Xp Bp Tp Cp Rp ++ (wH E Cp sz nw pf ++ (wP E Bp g z lo up pk ++ (wP E Tp g2 z2 lo2 up2 pk2 ++ (wR E Rp ln cd))))) H := Eq.mp (congrArg (fun y9 => va_P E.1 vwCl (wO Xp Bp Tp Cp Rp ++ (wH E Cp sz nw pf ++ (wP E Bp g z lo up pk ++ (wP E Tp g2 z2 lo2 up2 pk2 ++ (y9))))) H) hw9) hP
  have hD : va_D (va_A (wO Xp Bp Tp Cp Rp ++ (wH E Cp sz nw pf ++ (wP E Bp g z lo up pk ++ (wP E Tp g2 z2 lo2 up2 pk2 ++ (wR E Rp ln cd))))) s.heap.size) (wO Xp Bp Tp Cp Rp ++ (wH E Cp sz nw pf ++ (wP E Bp g z lo up pk ++ (wP E Tp g2 z2 lo2 up2 pk2 ++ (wR E Rp ln cd))))) := Eq.mp (congrArg (fun y9 => va_D (va_A (wO Xp Bp Tp Cp Rp ++ (wH E Cp sz nw pf ++ (wP E Bp g z lo up pk ++ (wP E Tp g2 z2 lo2 up2 pk2 ++ (wR E Rp ln cd))))) s.heap.size) (wO Xp Bp Tp Cp Rp ++ (wH E Cp sz nw pf ++ (wP E Bp g z lo up pk ++ (wP E Tp g2 z2 lo2 up2 pk2 ++ (y9)))))) hw9) hD
  exact gthrow hx hb hst hown rfl (hts (.classLink RX4 75 "java/lang/IllegalStateException") (List.mem_of_getElem? (i := 3) rfl)) (hts (.initialized "java/lang/IllegalStateException") (List.mem_of_getElem? (i := 4) rfl)) (List.mem_of_getElem? (i := 7) rfl) (fun w9 h9 => hts w9 (List.mem_cons_of_mem _ (List.mem_append_right _ h9))) th_ngS hX.2.2.2.2.2.2.1.2.2.2.2.1 th_otS hX hP hD hS (hl.1.trans hml.symm) dX4_append_33 dX4_append_36 dX4_append_37 dX4_append_39 dX4_append_42 hex (Nat.le_of_ble_eq_true rfl) (Nat.le_of_ble_eq_true rfl) (Nat.le_of_ble_eq_true rfl) (Nat.le_of_ble_eq_true rfl) hlocks

set_option maxHeartbeats 4000000 in
set_option maxRecDepth 100000 in
theorem t_X4_play (l : Launch) (hst : l.stackTraces = false) (E : EE) (Sp : Nat → Nat) (Xp : Nat) (Cp : Nat → Nat) (sz nw : Int32) (pf : Nat → Int32) (Bp : Nat → Nat) (g z : Nat → Int32) (lo up pk : Int32) (Tp : Nat → Nat) (g2 z2 : Nat → Int32) (lo2 up2 pk2 : Int32) (Rp : Nat → Nat) (ln : Int32) (cd : Nat → Int32) (L : Nat) (hL : ln = nI L) (hL5 : L ≤ 50) (hc : icI cd L = 0) : GT l yX4_play wsX4_play 6 82 E Sp (wO Xp Bp Tp Cp Rp ++ (wH E Cp sz nw pf ++ (wP E Bp g z lo up pk ++ (wP E Tp g2 z2 lo2 up2 pk2 ++ (wR E Rp ln cd))))) [.ref Xp] IAE := by
  intro sz
  refine vx_ofW (cc := cX4_play) (maxL := 7) (ret := (some .int)) (by decide) rfl ?_
  intro p e s m args below meth c s₁ B hml hex hv
  obtain ⟨⟨rfl, rfl, hP, hK, hD0, hN⟩, hX⟩ := hv
  have hx := B.exec
  have hb := B.bytes
  have hr := B.returns
  have hts := atoms_spec (ws := wsX4_play) B.pre
  have hown : s.vm.findClass RX4 = some m.cls := findClass_of_methodNamed B.named
  have hlocks := B.notSynchronized
  have hD := hD0.self (sz := s.heap.size)
  have hA : ∀ q : Nat, s.heap.size ≤ q → va_A (wO Xp Bp Tp Cp Rp ++ (wH E Cp sz nw pf ++ (wP E Bp g z lo up pk ++ (wP E Tp g2 z2 lo2 up2 pk2 ++ (wR E Rp ln cd))))) s.heap.size q := fun q h => Or.inr h
  have hS : va_S (va_A (wO Xp Bp Tp Cp Rp ++ (wH E Cp sz nw pf ++ (wP E Bp g z lo up pk ++ (wP E Tp g2 z2 lo2 up2 pk2 ++ (wR E Rp ln cd))))) s.heap.size) s.heap s.heap [] := va_S.rf
  have hl := lv_entry ([.ref Xp]) (n := 7) (Nat.le_of_ble_eq_true rfl)
  rw [lg_entry_eq]
  generalize (lg_sl ([.ref Xp]) ++ List.replicate (7 - (lg_sl ([.ref Xp])).length) Slot.unset).toArray = ls at hl ⊢
  have hl : lv_has ls 7 [(0, .ref Xp)] := hl
  have hf31 := hts (.fieldLink RX4 31 "PhaseConverter" "program" "LPhaseConverter$Program;") (List.mem_of_getElem? (i := 3) rfl)
  have hiX4 : ∀ w ∈ u_ws RX4 TX4 4, w ∈ wsX4_play := memIn [193, 194, 195, 196] rfl
  refine lv_aload_n hx hb dX4_play_0 rfl (lv_at hl 0 rfl) ?_
  refine va_get (D := E.1) (ci := 4) (v := .ref (Rp 0)) (C := RX4) (T := TX4) (N := 4) hx hb hts hiX4 hown hK hP 0 rfl rfl 3 (by decide) hf31 (fun _ h9 => h9) rfl dX4_play_1 ?_
  refine gvMi (wO Xp Bp Tp Cp Rp ++ (wH E Cp sz nw pf ++ (wP E Bp g z lo up pk ++ (wP E Tp g2 z2 lo2 up2 pk2)))) ([] : va_W) (As := []) (rest := []) ⟨hx, hb, hml, hown, hts⟩ (c_X3_isComplete l E Rp ln cd L hL hL5) (cwV 0 hts gX4_play_X3_isComplete rfl rfl rfl (by decide +kernel) ⟨Nat.le_of_ble_eq_true rfl, Nat.le_of_ble_eq_true rfl⟩) (va_recv hK hP (ci := 3) (q0 := 17) rfl rfl) hP hK hD hN hS hA rfl hl.1 rfl (Nat.le_of_ble_eq_true rfl) dX4_play_4 ⟨Nat.zero_le _, Nat.zero_le _⟩ (fun H locs hP hD hS => ?_)
  have hP : va_P E.1 vwCl (wO Xp Bp Tp Cp Rp ++ (wH E Cp sz nw pf ++ (wP E Bp g z lo up pk ++ (wP E Tp g2 z2 lo2 up2 pk2 ++ (wR E Rp ln cd))))) H := hP
  have hD : va_D _ (wO Xp Bp Tp Cp Rp ++ (wH E Cp sz nw pf ++ (wP E Bp g z lo up pk ++ (wP E Tp g2 z2 lo2 up2 pk2 ++ (wR E Rp ln cd))))) := hD
  refine lv_if_ne (tgt := 20) hx hb dX4_play_7 (by decide) (fun c_7 => absurd hc c_7) (fun c_7 => ?_)
  exact gthrow hx hb hst hown rfl (hts (.classLink RX4 35 "java/lang/IllegalArgumentException") (List.mem_of_getElem? (i := 1) rfl)) (hts (.initialized "java/lang/IllegalArgumentException") (List.mem_of_getElem? (i := 2) rfl)) (List.mem_of_getElem? (i := 8) rfl) (fun w9 h9 => hts w9 (List.mem_cons_of_mem _ (List.mem_append_right _ h9))) th_ngA hX.2.2.2.2.2.2.1.2.2.2.1 th_otA hX hP hD hS (hl.1.trans hml.symm) dX4_play_10 dX4_play_13 dX4_play_14 dX4_play_16 dX4_play_19 hex (Nat.le_of_ble_eq_true rfl) (Nat.le_of_ble_eq_true rfl) (Nat.le_of_ble_eq_true rfl) (Nat.le_of_ble_eq_true rfl) hlocks

set_option maxHeartbeats 4000000 in
set_option maxRecDepth 100000 in
theorem t_X4_count (l : Launch) (hst : l.stackTraces = false) (E : EE) (Sp : Nat → Nat) (Xp : Nat) (Cp : Nat → Nat) (sz nw : Int32) (pf : Nat → Int32) (Bp : Nat → Nat) (g z : Nat → Int32) (lo up pk : Int32) (Tp : Nat → Nat) (g2 z2 : Nat → Int32) (lo2 up2 pk2 : Int32) (Rp : Nat → Nat) (ln : Int32) (cd : Nat → Int32) (v1 : Int32) (hv : inRg v1 0 14 = 0) : GT l yX4_count wsX4_count 6 82 E Sp (wO Xp Bp Tp Cp Rp ++ (wH E Cp sz nw pf ++ (wP E Bp g z lo up pk ++ (wP E Tp g2 z2 lo2 up2 pk2 ++ (wR E Rp ln cd))))) [.ref Xp, .int v1] IAE := by
  intro sz
  refine vx_ofW (cc := cX4_count) (maxL := 2) (ret := (some .int)) (by decide) rfl ?_
  intro p e s m args below meth c s₁ B hml hex hv
  obtain ⟨⟨rfl, rfl, hP, hK, hD0, hN⟩, hX⟩ := hv
  have hx := B.exec
  have hb := B.bytes
  have hr := B.returns
  have hts := atoms_spec (ws := wsX4_count) B.pre
  have hown : s.vm.findClass RX4 = some m.cls := findClass_of_methodNamed B.named
  have hlocks := B.notSynchronized
  have hD := hD0.self (sz := s.heap.size)
  have hA : ∀ q : Nat, s.heap.size ≤ q → va_A (wO Xp Bp Tp Cp Rp ++ (wH E Cp sz nw pf ++ (wP E Bp g z lo up pk ++ (wP E Tp g2 z2 lo2 up2 pk2 ++ (wR E Rp ln cd))))) s.heap.size q := fun q h => Or.inr h
  have hS : va_S (va_A (wO Xp Bp Tp Cp Rp ++ (wH E Cp sz nw pf ++ (wP E Bp g z lo up pk ++ (wP E Tp g2 z2 lo2 up2 pk2 ++ (wR E Rp ln cd))))) s.heap.size) s.heap s.heap [] := va_S.rf
  have hl := lv_entry ([.ref Xp, .int v1]) (n := 2) (Nat.le_of_ble_eq_true rfl)
  rw [lg_entry_eq]
  generalize (lg_sl ([.ref Xp, .int v1]) ++ List.replicate (2 - (lg_sl ([.ref Xp, .int v1])).length) Slot.unset).toArray = ls at hl ⊢
  have hl : lv_has ls 2 [(0, .ref Xp), (1, .int v1)] := hl
  refine lv_iload_n hx hb dX4_count_0 rfl (lv_at hl 1 rfl) ?_
  refine lv_if_lt (tgt := 10) hx hb dX4_count_1 (by decide) (fun c_1 => ?_) (fun c_1 => ?_)
  · exact gthrow hx hb hst hown rfl (hts (.classLink RX4 35 "java/lang/IllegalArgumentException") (List.mem_of_getElem? (i := 1) rfl)) (hts (.initialized "java/lang/IllegalArgumentException") (List.mem_of_getElem? (i := 2) rfl)) (List.mem_of_getElem? (i := 9) rfl) (fun w9 h9 => hts w9 (List.mem_cons_of_mem _ (List.mem_append_right _ h9))) th_ngA hX.2.2.2.2.2.2.1.2.2.2.1 th_otA hX hP hD hS (hl.1.trans hml.symm) dX4_count_10 dX4_count_13 dX4_count_14 dX4_count_16 dX4_count_19 hex (Nat.le_of_ble_eq_true rfl) (Nat.le_of_ble_eq_true rfl) (Nat.le_of_ble_eq_true rfl) (Nat.le_of_ble_eq_true rfl) hlocks
  · refine lv_iload_n hx hb dX4_count_4 rfl (lv_at hl 1 rfl) ?_
    refine lv_bipush (v := 15) hx hb dX4_count_5 (by decide) ?_
    refine lv_icmp_lt (tgt := 20) hx hb dX4_count_7 (by decide) (fun c_7 => absurd c_7 (Int32.not_lt.mpr ((nI_succ_le (k := 14) (by omega)).mpr (inRg_hi hv c_1)))) (fun c_7 => ?_)
    exact gthrow hx hb hst hown rfl (hts (.classLink RX4 35 "java/lang/IllegalArgumentException") (List.mem_of_getElem? (i := 1) rfl)) (hts (.initialized "java/lang/IllegalArgumentException") (List.mem_of_getElem? (i := 2) rfl)) (List.mem_of_getElem? (i := 9) rfl) (fun w9 h9 => hts w9 (List.mem_cons_of_mem _ (List.mem_append_right _ h9))) th_ngA hX.2.2.2.2.2.2.1.2.2.2.1 th_otA hX hP hD hS (hl.1.trans hml.symm) dX4_count_10 dX4_count_13 dX4_count_14 dX4_count_16 dX4_count_19 hex (Nat.le_of_ble_eq_true rfl) (Nat.le_of_ble_eq_true rfl) (Nat.le_of_ble_eq_true rfl) (Nat.le_of_ble_eq_true rfl) hlocks

set_option maxHeartbeats 4000000 in
set_option maxRecDepth 100000 in
theorem t_X4_phase1 (l : Launch) (hst : l.stackTraces = false) (E : EE) (Sp : Nat → Nat) (Xp : Nat) (Cp : Nat → Nat) (sz nw : Int32) (pf : Nat → Int32) (Bp : Nat → Nat) (g z : Nat → Int32) (lo up pk : Int32) (Tp : Nat → Nat) (g2 z2 : Nat → Int32) (lo2 up2 pk2 : Int32) (Rp : Nat → Nat) (ln : Int32) (cd : Nat → Int32) (v1 v2 : Int32) (hz : zOK z) (hv : inRg v1 0 (z 15 - 1) = 0) : GT l yX4_phase wsX4_phase 6 82 E Sp (wO Xp Bp Tp Cp Rp ++ (wH E Cp sz nw pf ++ (wP E Bp g z lo up pk ++ (wP E Tp g2 z2 lo2 up2 pk2 ++ (wR E Rp ln cd))))) [.ref Xp, .int v1, .int v2] IOE := by
  intro sz
  refine vx_ofW (cc := cX4_phase) (maxL := 3) (ret := (some .int)) (by decide) rfl ?_
  intro p e s m args below meth c s₁ B hml hex hv
  obtain ⟨⟨rfl, rfl, hP, hK, hD0, hN⟩, hX⟩ := hv
  have hx := B.exec
  have hb := B.bytes
  have hr := B.returns
  have hts := atoms_spec (ws := wsX4_phase) B.pre
  have hown : s.vm.findClass RX4 = some m.cls := findClass_of_methodNamed B.named
  have hlocks := B.notSynchronized
  have hD := hD0.self (sz := s.heap.size)
  have hA : ∀ q : Nat, s.heap.size ≤ q → va_A (wO Xp Bp Tp Cp Rp ++ (wH E Cp sz nw pf ++ (wP E Bp g z lo up pk ++ (wP E Tp g2 z2 lo2 up2 pk2 ++ (wR E Rp ln cd))))) s.heap.size q := fun q h => Or.inr h
  have hS : va_S (va_A (wO Xp Bp Tp Cp Rp ++ (wH E Cp sz nw pf ++ (wP E Bp g z lo up pk ++ (wP E Tp g2 z2 lo2 up2 pk2 ++ (wR E Rp ln cd))))) s.heap.size) s.heap s.heap [] := va_S.rf
  have hl := lv_entry ([.ref Xp, .int v1, .int v2]) (n := 3) (Nat.le_of_ble_eq_true rfl)
  rw [lg_entry_eq]
  generalize (lg_sl ([.ref Xp, .int v1, .int v2]) ++ List.replicate (3 - (lg_sl ([.ref Xp, .int v1, .int v2])).length) Slot.unset).toArray = ls at hl ⊢
  have hl : lv_has ls 3 [(0, .ref Xp), (1, .int v1), (2, .int v2)] := hl
  have hf14 := hts (.fieldLink RX4 14 "PhaseConverter" "plant" "LPhaseConverter$Plant;") (List.mem_of_getElem? (i := 5) rfl)
  have hf42 := hts (.fieldLink RX4 42 "PhaseConverter$Plant" "phaseCount" "I") (List.mem_of_getElem? (i := 6) rfl)
  have hiX2 : ∀ w ∈ u_ws RX2 TX2 17, w ∈ wsX4_phase := memIn [24, 25, 26, 27, 28, 29, 30, 31, 32, 33, 34, 35, 36, 37, 38, 39, 40] rfl
  have hiX4 : ∀ w ∈ u_ws RX4 TX4 4, w ∈ wsX4_phase := memIn [20, 21, 22, 23] rfl
  refine lv_iload_n hx hb dX4_phase_0 rfl (lv_at hl 1 rfl) ?_
  refine lv_if_lt (tgt := 27) hx hb dX4_phase_1 (by decide) (fun c_1 => ?_) (fun c_1 => ?_)
  · exact gthrow hx hb hst hown rfl (hts (.classLink RX4 56 "java/lang/IndexOutOfBoundsException") (List.mem_of_getElem? (i := 1) rfl)) (hts (.initialized "java/lang/IndexOutOfBoundsException") (List.mem_of_getElem? (i := 2) rfl)) (List.mem_of_getElem? (i := 10) rfl) (fun w9 h9 => hts w9 (List.mem_cons_of_mem _ (List.mem_append_left _ (List.mem_append_right _ h9)))) th_ngO hX.2.2.2.2.2.2.1.2.2.2.2.2 th_otO hX hP hD hS (hl.1.trans hml.symm) dX4_phase_27 dX4_phase_30 dX4_phase_31 dX4_phase_33 dX4_phase_36 hex (Nat.le_of_ble_eq_true rfl) (Nat.le_of_ble_eq_true rfl) (Nat.le_of_ble_eq_true rfl) (Nat.le_of_ble_eq_true rfl) hlocks
  · refine lv_iload_n hx hb dX4_phase_4 rfl (lv_at hl 1 rfl) ?_
    refine lv_aload_n hx hb dX4_phase_5 rfl (lv_at hl 0 rfl) ?_
    refine va_get (D := E.1) (ci := 4) (v := .ref (Bp 0)) (C := RX4) (T := TX4) (N := 4) hx hb hts hiX4 hown hK hP 0 rfl rfl 0 (by decide) hf14 (fun _ h9 => h9) rfl dX4_phase_6 ?_
    refine va_get (D := E.1) (ci := 2) (v := .int (z 15)) (C := RX2) (T := TX2) (N := 17) hx hb hts hiX2 hown hK hP 3 rfl rfl 2 (by decide) hf42 (fun _ h9 => h9) rfl dX4_phase_9 ?_
    refine lv_icmp_ge (tgt := 27) hx hb dX4_phase_12 (by decide) (fun c_12 => ?_) (fun c_12 => absurd (inRg_m1 hz.1 (by have := hz.2.2.1; omega) hv c_1) c_12)
    exact gthrow hx hb hst hown rfl (hts (.classLink RX4 56 "java/lang/IndexOutOfBoundsException") (List.mem_of_getElem? (i := 1) rfl)) (hts (.initialized "java/lang/IndexOutOfBoundsException") (List.mem_of_getElem? (i := 2) rfl)) (List.mem_of_getElem? (i := 10) rfl) (fun w9 h9 => hts w9 (List.mem_cons_of_mem _ (List.mem_append_left _ (List.mem_append_right _ h9)))) th_ngO hX.2.2.2.2.2.2.1.2.2.2.2.2 th_otO hX hP hD hS (hl.1.trans hml.symm) dX4_phase_27 dX4_phase_30 dX4_phase_31 dX4_phase_33 dX4_phase_36 hex (Nat.le_of_ble_eq_true rfl) (Nat.le_of_ble_eq_true rfl) (Nat.le_of_ble_eq_true rfl) (Nat.le_of_ble_eq_true rfl) hlocks

set_option maxHeartbeats 4000000 in
set_option maxRecDepth 100000 in
theorem t_X4_phase2 (l : Launch) (hst : l.stackTraces = false) (E : EE) (Sp : Nat → Nat) (Xp : Nat) (Cp : Nat → Nat) (sz nw : Int32) (pf : Nat → Int32) (Bp : Nat → Nat) (g z : Nat → Int32) (lo up pk : Int32) (Tp : Nat → Nat) (g2 z2 : Nat → Int32) (lo2 up2 pk2 : Int32) (Rp : Nat → Nat) (ln : Int32) (cd : Nat → Int32) (k0 : Nat) (v2 : Int32) (hz : zOK z) (hk : k0 < nOf z) (hv : inRg v2 0 6 = 0) : GT l yX4_phase wsX4_phase 6 82 E Sp (wO Xp Bp Tp Cp Rp ++ (wH E Cp sz nw pf ++ (wP E Bp g z lo up pk ++ (wP E Tp g2 z2 lo2 up2 pk2 ++ (wR E Rp ln cd))))) [.ref Xp, .int (nI k0), .int v2] IAE := by
  intro sz
  refine vx_ofW (cc := cX4_phase) (maxL := 3) (ret := (some .int)) (by decide) rfl ?_
  intro p e s m args below meth c s₁ B hml hex hv
  obtain ⟨⟨rfl, rfl, hP, hK, hD0, hN⟩, hX⟩ := hv
  have hx := B.exec
  have hb := B.bytes
  have hr := B.returns
  have hts := atoms_spec (ws := wsX4_phase) B.pre
  have hown : s.vm.findClass RX4 = some m.cls := findClass_of_methodNamed B.named
  have hlocks := B.notSynchronized
  have hD := hD0.self (sz := s.heap.size)
  have hA : ∀ q : Nat, s.heap.size ≤ q → va_A (wO Xp Bp Tp Cp Rp ++ (wH E Cp sz nw pf ++ (wP E Bp g z lo up pk ++ (wP E Tp g2 z2 lo2 up2 pk2 ++ (wR E Rp ln cd))))) s.heap.size q := fun q h => Or.inr h
  have hS : va_S (va_A (wO Xp Bp Tp Cp Rp ++ (wH E Cp sz nw pf ++ (wP E Bp g z lo up pk ++ (wP E Tp g2 z2 lo2 up2 pk2 ++ (wR E Rp ln cd))))) s.heap.size) s.heap s.heap [] := va_S.rf
  have hl := lv_entry ([.ref Xp, .int (nI k0), .int v2]) (n := 3) (Nat.le_of_ble_eq_true rfl)
  rw [lg_entry_eq]
  generalize (lg_sl ([.ref Xp, .int (nI k0), .int v2]) ++ List.replicate (3 - (lg_sl ([.ref Xp, .int (nI k0), .int v2])).length) Slot.unset).toArray = ls at hl ⊢
  have hl : lv_has ls 3 [(0, .ref Xp), (1, .int (nI k0)), (2, .int v2)] := hl
  have hf14 := hts (.fieldLink RX4 14 "PhaseConverter" "plant" "LPhaseConverter$Plant;") (List.mem_of_getElem? (i := 5) rfl)
  have hf143 := hts (.fieldLink RX4 143 "PhaseConverter$Plant" "phases" "[LPhaseConverter$Phase;") (List.mem_of_getElem? (i := 7) rfl)
  have hf42 := hts (.fieldLink RX4 42 "PhaseConverter$Plant" "phaseCount" "I") (List.mem_of_getElem? (i := 6) rfl)
  have hiX2 : ∀ w ∈ u_ws RX2 TX2 17, w ∈ wsX4_phase := memIn [24, 25, 26, 27, 28, 29, 30, 31, 32, 33, 34, 35, 36, 37, 38, 39, 40] rfl
  have hiX4 : ∀ w ∈ u_ws RX4 TX4 4, w ∈ wsX4_phase := memIn [20, 21, 22, 23] rfl
  have hn4 := hz.2.2.1
  refine lv_iload_n hx hb dX4_phase_0 rfl (lv_at hl 1 rfl) ?_
  refine lv_if_lt (tgt := 27) hx hb dX4_phase_1 (by decide) (fun c_1 => absurd c_1 (nI_pos (by omega))) (fun c_1 => ?_)
  refine lv_iload_n hx hb dX4_phase_4 rfl (lv_at hl 1 rfl) ?_
  refine lv_aload_n hx hb dX4_phase_5 rfl (lv_at hl 0 rfl) ?_
  refine va_get (D := E.1) (ci := 4) (v := .ref (Bp 0)) (C := RX4) (T := TX4) (N := 4) hx hb hts hiX4 hown hK hP 0 rfl rfl 0 (by decide) hf14 (fun _ h9 => h9) rfl dX4_phase_6 ?_
  refine va_get (D := E.1) (ci := 2) (v := .int (z 15)) (C := RX2) (T := TX2) (N := 17) hx hb hts hiX2 hown hK hP 3 rfl rfl 2 (by decide) hf42 (fun _ h9 => h9) rfl dX4_phase_9 ?_
  refine lv_icmp_ge (tgt := 27) hx hb dX4_phase_12 (by decide) (fun c_12 => absurd c_12 (by rw [hz.1]; exact nI_ge (by omega) (by omega))) (fun c_12 => ?_)
  refine lv_iload_n hx hb dX4_phase_15 rfl (lv_at hl 1 rfl) ?_
  refine lv_aload_n hx hb dX4_phase_16 rfl (lv_at hl 0 rfl) ?_
  refine va_get (D := E.1) (ci := 4) (v := .ref (Bp 0)) (C := RX4) (T := TX4) (N := 4) hx hb hts hiX4 hown hK hP 0 rfl rfl 0 (by decide) hf14 (fun _ h9 => h9) rfl dX4_phase_17 ?_
  refine va_get (D := E.1) (ci := 2) (v := .ref (Bp 2)) (C := RX2) (T := TX2) (N := 17) hx hb hts hiX2 hown hK hP 3 rfl rfl 1 (by decide) hf143 (fun _ h9 => h9) rfl dX4_phase_20 ?_
  refine va_alen hx hb hK hP 5 1 rfl rfl (v := 4) rfl dX4_phase_23 ?_
  refine lv_icmp_lt (tgt := 37) hx hb dX4_phase_24 (by decide) (fun c_24 => ?_) (fun c_24 => absurd (nI_lt (b := 4) (by omega) (by omega)) c_24)
  refine lv_iload_n hx hb dX4_phase_37 rfl (lv_at hl 2 rfl) ?_
  refine lv_if_lt (tgt := 47) hx hb dX4_phase_38 (by decide) (fun c_38 => ?_) (fun c_38 => ?_)
  · exact gthrow hx hb hst hown rfl (hts (.classLink RX4 35 "java/lang/IllegalArgumentException") (List.mem_of_getElem? (i := 3) rfl)) (hts (.initialized "java/lang/IllegalArgumentException") (List.mem_of_getElem? (i := 4) rfl)) (List.mem_of_getElem? (i := 11) rfl) (fun w9 h9 => hts w9 (List.mem_cons_of_mem _ (List.mem_append_right _ h9))) th_ngA hX.2.2.2.2.2.2.1.2.2.2.1 th_otA hX hP hD hS (hl.1.trans hml.symm) dX4_phase_47 dX4_phase_50 dX4_phase_51 dX4_phase_53 dX4_phase_56 hex (Nat.le_of_ble_eq_true rfl) (Nat.le_of_ble_eq_true rfl) (Nat.le_of_ble_eq_true rfl) (Nat.le_of_ble_eq_true rfl) hlocks
  · refine lv_iload_n hx hb dX4_phase_41 rfl (lv_at hl 2 rfl) ?_
    refine lv_bipush (v := 7) hx hb dX4_phase_42 (by decide) ?_
    refine lv_icmp_lt (tgt := 57) hx hb dX4_phase_44 (by decide) (fun c_44 => absurd c_44 (Int32.not_lt.mpr ((nI_succ_le (k := 6) (by omega)).mpr (inRg_hi hv c_38)))) (fun c_44 => ?_)
    exact gthrow hx hb hst hown rfl (hts (.classLink RX4 35 "java/lang/IllegalArgumentException") (List.mem_of_getElem? (i := 3) rfl)) (hts (.initialized "java/lang/IllegalArgumentException") (List.mem_of_getElem? (i := 4) rfl)) (List.mem_of_getElem? (i := 11) rfl) (fun w9 h9 => hts w9 (List.mem_cons_of_mem _ (List.mem_append_right _ h9))) th_ngA hX.2.2.2.2.2.2.1.2.2.2.1 th_otA hX hP hD hS (hl.1.trans hml.symm) dX4_phase_47 dX4_phase_50 dX4_phase_51 dX4_phase_53 dX4_phase_56 hex (Nat.le_of_ble_eq_true rfl) (Nat.le_of_ble_eq_true rfl) (Nat.le_of_ble_eq_true rfl) (Nat.le_of_ble_eq_true rfl) hlocks

set_option maxHeartbeats 4000000 in
set_option maxRecDepth 100000 in
theorem t_X4_record1 (l : Launch) (hst : l.stackTraces = false) (E : EE) (Sp : Nat → Nat) (Xp : Nat) (Cp : Nat → Nat) (sz nw : Int32) (pf : Nat → Int32) (Bp : Nat → Nat) (g z : Nat → Int32) (lo up pk : Int32) (Tp : Nat → Nat) (g2 z2 : Nat → Int32) (lo2 up2 pk2 : Int32) (Rp : Nat → Nat) (ln : Int32) (cd : Nat → Int32) (v1 v2 : Int32) (hrk : rOK sz nw) (hv : inRg v1 0 (sz - 1) = 0) : GT l yX4_record wsX4_record 6 82 E Sp (wO Xp Bp Tp Cp Rp ++ (wH E Cp sz nw pf ++ (wP E Bp g z lo up pk ++ (wP E Tp g2 z2 lo2 up2 pk2 ++ (wR E Rp ln cd))))) [.ref Xp, .int v1, .int v2] IOE := by
  intro sz
  refine vx_ofW (cc := cX4_record) (maxL := 3) (ret := (some .int)) (by decide) rfl ?_
  intro p e s m args below meth c s₁ B hml hex hv
  obtain ⟨⟨rfl, rfl, hP, hK, hD0, hN⟩, hX⟩ := hv
  have hx := B.exec
  have hb := B.bytes
  have hr := B.returns
  have hts := atoms_spec (ws := wsX4_record) B.pre
  have hown : s.vm.findClass RX4 = some m.cls := findClass_of_methodNamed B.named
  have hlocks := B.notSynchronized
  have hD := hD0.self (sz := s.heap.size)
  have hA : ∀ q : Nat, s.heap.size ≤ q → va_A (wO Xp Bp Tp Cp Rp ++ (wH E Cp sz nw pf ++ (wP E Bp g z lo up pk ++ (wP E Tp g2 z2 lo2 up2 pk2 ++ (wR E Rp ln cd))))) s.heap.size q := fun q h => Or.inr h
  have hS : va_S (va_A (wO Xp Bp Tp Cp Rp ++ (wH E Cp sz nw pf ++ (wP E Bp g z lo up pk ++ (wP E Tp g2 z2 lo2 up2 pk2 ++ (wR E Rp ln cd))))) s.heap.size) s.heap s.heap [] := va_S.rf
  have hl := lv_entry ([.ref Xp, .int v1, .int v2]) (n := 3) (Nat.le_of_ble_eq_true rfl)
  rw [lg_entry_eq]
  generalize (lg_sl ([.ref Xp, .int v1, .int v2]) ++ List.replicate (3 - (lg_sl ([.ref Xp, .int v1, .int v2])).length) Slot.unset).toArray = ls at hl ⊢
  have hl : lv_has ls 3 [(0, .ref Xp), (1, .int v1), (2, .int v2)] := hl
  have hf156 := hts (.fieldLink RX4 156 "PhaseConverter$History" "size" "I") (List.mem_of_getElem? (i := 6) rfl)
  have hf24 := hts (.fieldLink RX4 24 "PhaseConverter" "history" "LPhaseConverter$History;") (List.mem_of_getElem? (i := 5) rfl)
  have hiX0 : ∀ w ∈ u_ws RX0 TX0 3, w ∈ wsX4_record := memIn [18, 19, 20] rfl
  have hiX4 : ∀ w ∈ u_ws RX4 TX4 4, w ∈ wsX4_record := memIn [14, 15, 16, 17] rfl
  refine lv_iload_n hx hb dX4_record_0 rfl (lv_at hl 1 rfl) ?_
  refine lv_if_lt (tgt := 15) hx hb dX4_record_1 (by decide) (fun c_1 => ?_) (fun c_1 => ?_)
  · exact gthrow hx hb hst hown rfl (hts (.classLink RX4 56 "java/lang/IndexOutOfBoundsException") (List.mem_of_getElem? (i := 1) rfl)) (hts (.initialized "java/lang/IndexOutOfBoundsException") (List.mem_of_getElem? (i := 2) rfl)) (List.mem_of_getElem? (i := 12) rfl) (fun w9 h9 => hts w9 (List.mem_cons_of_mem _ (List.mem_append_left _ (List.mem_append_right _ h9)))) th_ngO hX.2.2.2.2.2.2.1.2.2.2.2.2 th_otO hX hP hD hS (hl.1.trans hml.symm) dX4_record_15 dX4_record_18 dX4_record_19 dX4_record_21 dX4_record_24 hex (Nat.le_of_ble_eq_true rfl) (Nat.le_of_ble_eq_true rfl) (Nat.le_of_ble_eq_true rfl) (Nat.le_of_ble_eq_true rfl) hlocks
  · refine lv_iload_n hx hb dX4_record_4 rfl (lv_at hl 1 rfl) ?_
    refine lv_aload_n hx hb dX4_record_5 rfl (lv_at hl 0 rfl) ?_
    refine va_get (D := E.1) (ci := 4) (v := .ref (Cp 0)) (C := RX4) (T := TX4) (N := 4) hx hb hts hiX4 hown hK hP 0 rfl rfl 2 (by decide) hf24 (fun _ h9 => h9) rfl dX4_record_6 ?_
    refine va_get (D := E.1) (ci := 0) (v := .int sz) (C := RX0) (T := TX0) (N := 3) hx hb hts hiX0 hown hK hP 1 rfl rfl 1 (by decide) hf156 (fun _ h9 => h9) rfl dX4_record_9 ?_
    refine lv_icmp_lt (tgt := 25) hx hb dX4_record_12 (by decide) (fun c_12 => absurd c_12 (Int32.not_lt.mpr (inRg_m1 hrk.2.2.1 (by have := hrk.2.2.2; omega) hv c_1))) (fun c_12 => ?_)
    exact gthrow hx hb hst hown rfl (hts (.classLink RX4 56 "java/lang/IndexOutOfBoundsException") (List.mem_of_getElem? (i := 1) rfl)) (hts (.initialized "java/lang/IndexOutOfBoundsException") (List.mem_of_getElem? (i := 2) rfl)) (List.mem_of_getElem? (i := 12) rfl) (fun w9 h9 => hts w9 (List.mem_cons_of_mem _ (List.mem_append_left _ (List.mem_append_right _ h9)))) th_ngO hX.2.2.2.2.2.2.1.2.2.2.2.2 th_otO hX hP hD hS (hl.1.trans hml.symm) dX4_record_15 dX4_record_18 dX4_record_19 dX4_record_21 dX4_record_24 hex (Nat.le_of_ble_eq_true rfl) (Nat.le_of_ble_eq_true rfl) (Nat.le_of_ble_eq_true rfl) (Nat.le_of_ble_eq_true rfl) hlocks

set_option maxHeartbeats 4000000 in
set_option maxRecDepth 100000 in
theorem t_X4_record2 (l : Launch) (hst : l.stackTraces = false) (E : EE) (Sp : Nat → Nat) (Xp : Nat) (Cp : Nat → Nat) (sz nw : Int32) (pf : Nat → Int32) (Bp : Nat → Nat) (g z : Nat → Int32) (lo up pk : Int32) (Tp : Nat → Nat) (g2 z2 : Nat → Int32) (lo2 up2 pk2 : Int32) (Rp : Nat → Nat) (ln : Int32) (cd : Nat → Int32) (i0 : Nat) (v2 : Int32) (hrk : rOK sz nw) (hi : i0 < sz.toNatClampNeg) (hv : inRg v2 0 5 = 0) : GT l yX4_record wsX4_record 6 82 E Sp (wO Xp Bp Tp Cp Rp ++ (wH E Cp sz nw pf ++ (wP E Bp g z lo up pk ++ (wP E Tp g2 z2 lo2 up2 pk2 ++ (wR E Rp ln cd))))) [.ref Xp, .int (nI i0), .int v2] IAE := by
  intro sz
  refine vx_ofW (cc := cX4_record) (maxL := 3) (ret := (some .int)) (by decide) rfl ?_
  intro p e s m args below meth c s₁ B hml hex hv
  obtain ⟨⟨rfl, rfl, hP, hK, hD0, hN⟩, hX⟩ := hv
  have hx := B.exec
  have hb := B.bytes
  have hr := B.returns
  have hts := atoms_spec (ws := wsX4_record) B.pre
  have hown : s.vm.findClass RX4 = some m.cls := findClass_of_methodNamed B.named
  have hlocks := B.notSynchronized
  have hD := hD0.self (sz := s.heap.size)
  have hA : ∀ q : Nat, s.heap.size ≤ q → va_A (wO Xp Bp Tp Cp Rp ++ (wH E Cp sz nw pf ++ (wP E Bp g z lo up pk ++ (wP E Tp g2 z2 lo2 up2 pk2 ++ (wR E Rp ln cd))))) s.heap.size q := fun q h => Or.inr h
  have hS : va_S (va_A (wO Xp Bp Tp Cp Rp ++ (wH E Cp sz nw pf ++ (wP E Bp g z lo up pk ++ (wP E Tp g2 z2 lo2 up2 pk2 ++ (wR E Rp ln cd))))) s.heap.size) s.heap s.heap [] := va_S.rf
  have hl := lv_entry ([.ref Xp, .int (nI i0), .int v2]) (n := 3) (Nat.le_of_ble_eq_true rfl)
  rw [lg_entry_eq]
  generalize (lg_sl ([.ref Xp, .int (nI i0), .int v2]) ++ List.replicate (3 - (lg_sl ([.ref Xp, .int (nI i0), .int v2])).length) Slot.unset).toArray = ls at hl ⊢
  have hl : lv_has ls 3 [(0, .ref Xp), (1, .int (nI i0)), (2, .int v2)] := hl
  have hf156 := hts (.fieldLink RX4 156 "PhaseConverter$History" "size" "I") (List.mem_of_getElem? (i := 6) rfl)
  have hf24 := hts (.fieldLink RX4 24 "PhaseConverter" "history" "LPhaseConverter$History;") (List.mem_of_getElem? (i := 5) rfl)
  have hiX0 : ∀ w ∈ u_ws RX0 TX0 3, w ∈ wsX4_record := memIn [18, 19, 20] rfl
  have hiX4 : ∀ w ∈ u_ws RX4 TX4 4, w ∈ wsX4_record := memIn [14, 15, 16, 17] rfl
  have hs6 := hrk.2.2.2
  refine lv_iload_n hx hb dX4_record_0 rfl (lv_at hl 1 rfl) ?_
  refine lv_if_lt (tgt := 15) hx hb dX4_record_1 (by decide) (fun c_1 => absurd c_1 (nI_pos (by omega))) (fun c_1 => ?_)
  refine lv_iload_n hx hb dX4_record_4 rfl (lv_at hl 1 rfl) ?_
  refine lv_aload_n hx hb dX4_record_5 rfl (lv_at hl 0 rfl) ?_
  refine va_get (D := E.1) (ci := 4) (v := .ref (Cp 0)) (C := RX4) (T := TX4) (N := 4) hx hb hts hiX4 hown hK hP 0 rfl rfl 2 (by decide) hf24 (fun _ h9 => h9) rfl dX4_record_6 ?_
  refine va_get (D := E.1) (ci := 0) (v := .int sz) (C := RX0) (T := TX0) (N := 3) hx hb hts hiX0 hown hK hP 1 rfl rfl 1 (by decide) hf156 (fun _ h9 => h9) rfl dX4_record_9 ?_
  refine lv_icmp_lt (tgt := 25) hx hb dX4_record_12 (by decide) (fun c_12 => ?_) (fun c_12 => absurd (by rw [hrk.2.2.1]; exact nI_lt (by omega) (by omega)) c_12)
  refine lv_iload_n hx hb dX4_record_25 rfl (lv_at hl 2 rfl) ?_
  refine lv_if_lt (tgt := 35) hx hb dX4_record_26 (by decide) (fun c_26 => ?_) (fun c_26 => ?_)
  · exact gthrow hx hb hst hown rfl (hts (.classLink RX4 35 "java/lang/IllegalArgumentException") (List.mem_of_getElem? (i := 3) rfl)) (hts (.initialized "java/lang/IllegalArgumentException") (List.mem_of_getElem? (i := 4) rfl)) (List.mem_of_getElem? (i := 13) rfl) (fun w9 h9 => hts w9 (List.mem_cons_of_mem _ (List.mem_append_right _ h9))) th_ngA hX.2.2.2.2.2.2.1.2.2.2.1 th_otA hX hP hD hS (hl.1.trans hml.symm) dX4_record_35 dX4_record_38 dX4_record_39 dX4_record_41 dX4_record_44 hex (Nat.le_of_ble_eq_true rfl) (Nat.le_of_ble_eq_true rfl) (Nat.le_of_ble_eq_true rfl) (Nat.le_of_ble_eq_true rfl) hlocks
  · refine lv_iload_n hx hb dX4_record_29 rfl (lv_at hl 2 rfl) ?_
    refine lv_bipush (v := 6) hx hb dX4_record_30 (by decide) ?_
    refine lv_icmp_lt (tgt := 45) hx hb dX4_record_32 (by decide) (fun c_32 => absurd c_32 (Int32.not_lt.mpr ((nI_succ_le (k := 5) (by omega)).mpr (inRg_hi hv c_26)))) (fun c_32 => ?_)
    exact gthrow hx hb hst hown rfl (hts (.classLink RX4 35 "java/lang/IllegalArgumentException") (List.mem_of_getElem? (i := 3) rfl)) (hts (.initialized "java/lang/IllegalArgumentException") (List.mem_of_getElem? (i := 4) rfl)) (List.mem_of_getElem? (i := 13) rfl) (fun w9 h9 => hts w9 (List.mem_cons_of_mem _ (List.mem_append_right _ h9))) th_ngA hX.2.2.2.2.2.2.1.2.2.2.1 th_otA hX hP hD hS (hl.1.trans hml.symm) dX4_record_35 dX4_record_38 dX4_record_39 dX4_record_41 dX4_record_44 hex (Nat.le_of_ble_eq_true rfl) (Nat.le_of_ble_eq_true rfl) (Nat.le_of_ble_eq_true rfl) (Nat.le_of_ble_eq_true rfl) hlocks

set_option maxHeartbeats 4000000 in
set_option maxRecDepth 100000 in
theorem t_X4_ifLoaded (l : Launch) (hst : l.stackTraces = false) (E : EE) (Sp : Nat → Nat) (Xp : Nat) (Cp : Nat → Nat) (sz nw : Int32) (pf : Nat → Int32) (Bp : Nat → Nat) (g z : Nat → Int32) (lo up pk : Int32) (Tp : Nat → Nat) (g2 z2 : Nat → Int32) (lo2 up2 pk2 : Int32) (Rp : Nat → Nat) (ln : Int32) (cd : Nat → Int32) (v1 v2 v3 : Int32) (hbad : ¬ (¬ fitI 2 v1 = 0 ∧ ¬ inRg v2 1 100 = 0 ∧ ¬ inRg v3 0 5 = 0)) : GT l yX4_ifLoaded wsX4_ifLoaded 6 82 E Sp (wO Xp Bp Tp Cp Rp ++ (wH E Cp sz nw pf ++ (wP E Bp g z lo up pk ++ (wP E Tp g2 z2 lo2 up2 pk2 ++ (wR E Rp ln cd))))) [.ref Xp, .int v1, .int v2, .int v3] IAE := by
  intro sz
  refine vx_ofW (cc := cX4_ifLoaded) (maxL := 7) (ret := (some .int)) (by decide) rfl ?_
  intro p e s m args below meth c s₁ B hml hex hv
  obtain ⟨⟨rfl, rfl, hP, hK, hD0, hN⟩, hX⟩ := hv
  have hx := B.exec
  have hb := B.bytes
  have hr := B.returns
  have hts := atoms_spec (ws := wsX4_ifLoaded) B.pre
  have hown : s.vm.findClass RX4 = some m.cls := findClass_of_methodNamed B.named
  have hlocks := B.notSynchronized
  have hD := hD0.self (sz := s.heap.size)
  have hA : ∀ q : Nat, s.heap.size ≤ q → va_A (wO Xp Bp Tp Cp Rp ++ (wH E Cp sz nw pf ++ (wP E Bp g z lo up pk ++ (wP E Tp g2 z2 lo2 up2 pk2 ++ (wR E Rp ln cd))))) s.heap.size q := fun q h => Or.inr h
  have hS : va_S (va_A (wO Xp Bp Tp Cp Rp ++ (wH E Cp sz nw pf ++ (wP E Bp g z lo up pk ++ (wP E Tp g2 z2 lo2 up2 pk2 ++ (wR E Rp ln cd))))) s.heap.size) s.heap s.heap [] := va_S.rf
  have hl := lv_entry ([.ref Xp, .int v1, .int v2, .int v3]) (n := 7) (Nat.le_of_ble_eq_true rfl)
  rw [lg_entry_eq]
  generalize (lg_sl ([.ref Xp, .int v1, .int v2, .int v3]) ++ List.replicate (7 - (lg_sl ([.ref Xp, .int v1, .int v2, .int v3])).length) Slot.unset).toArray = ls at hl ⊢
  have hl : lv_has ls 7 [(0, .ref Xp), (1, .int v1), (2, .int v2), (3, .int v3)] := hl
  refine lv_iconst (v := 2) hx hb dX4_ifLoaded_0 (by decide) ?_
  refine lv_iload_n hx hb dX4_ifLoaded_1 rfl (lv_at hl 1 rfl) ?_
  refine xsPi (As := [.int 2, .int v1]) (rest := []) ⟨hx, hb, hml, hown, hts⟩ (c_X4_fits l E Sp 2 v1) (va_cwS 2 hts gX4_ifLoaded_X4_fits rfl rfl rfl (by decide +kernel) ⟨Nat.le_of_ble_eq_true rfl, Nat.le_of_ble_eq_true rfl⟩) hP hK hD hN hX hS hA rfl hl.1 rfl (Nat.le_of_ble_eq_true rfl) dX4_ifLoaded_2 ⟨Nat.zero_le _, Nat.zero_le _⟩ (fun H locs hP hD hS => ?_)
  refine lv_if_eq (tgt := 29) hx hb dX4_ifLoaded_5 (by decide) (fun c_5 => ?_) (fun c_5 => ?_)
  · exact gthrow hx hb hst hown rfl (hts (.classLink RX4 35 "java/lang/IllegalArgumentException") (List.mem_of_getElem? (i := 1) rfl)) (hts (.initialized "java/lang/IllegalArgumentException") (List.mem_of_getElem? (i := 2) rfl)) (List.mem_of_getElem? (i := 14) rfl) (fun w9 h9 => hts w9 (List.mem_cons_of_mem _ (List.mem_append_right _ h9))) th_ngA hX.2.2.2.2.2.2.1.2.2.2.1 th_otA hX hP hD hS (hl.1.trans hml.symm) dX4_ifLoaded_29 dX4_ifLoaded_32 dX4_ifLoaded_33 dX4_ifLoaded_35 dX4_ifLoaded_38 hex (Nat.le_of_ble_eq_true rfl) (Nat.le_of_ble_eq_true rfl) (Nat.le_of_ble_eq_true rfl) (Nat.le_of_ble_eq_true rfl) hlocks
  · refine lv_iload_n hx hb dX4_ifLoaded_8 rfl (lv_at hl 2 rfl) ?_
    refine lv_iconst (v := 1) hx hb dX4_ifLoaded_9 (by decide) ?_
    refine lv_icmp_lt (tgt := 29) hx hb dX4_ifLoaded_10 (by decide) (fun c_10 => ?_) (fun c_10 => ?_)
    · exact gthrow hx hb hst hown rfl (hts (.classLink RX4 35 "java/lang/IllegalArgumentException") (List.mem_of_getElem? (i := 1) rfl)) (hts (.initialized "java/lang/IllegalArgumentException") (List.mem_of_getElem? (i := 2) rfl)) (List.mem_of_getElem? (i := 14) rfl) (fun w9 h9 => hts w9 (List.mem_cons_of_mem _ (List.mem_append_right _ h9))) th_ngA hX.2.2.2.2.2.2.1.2.2.2.1 th_otA hX hP hD hS (hl.1.trans hml.symm) dX4_ifLoaded_29 dX4_ifLoaded_32 dX4_ifLoaded_33 dX4_ifLoaded_35 dX4_ifLoaded_38 hex (Nat.le_of_ble_eq_true rfl) (Nat.le_of_ble_eq_true rfl) (Nat.le_of_ble_eq_true rfl) (Nat.le_of_ble_eq_true rfl) hlocks
    · refine lv_iload_n hx hb dX4_ifLoaded_13 rfl (lv_at hl 2 rfl) ?_
      refine lv_bipush (v := 100) hx hb dX4_ifLoaded_14 (by decide) ?_
      refine lv_icmp_gt (tgt := 29) hx hb dX4_ifLoaded_16 (by decide) (fun c_16 => ?_) (fun c_16 => ?_)
      · exact gthrow hx hb hst hown rfl (hts (.classLink RX4 35 "java/lang/IllegalArgumentException") (List.mem_of_getElem? (i := 1) rfl)) (hts (.initialized "java/lang/IllegalArgumentException") (List.mem_of_getElem? (i := 2) rfl)) (List.mem_of_getElem? (i := 14) rfl) (fun w9 h9 => hts w9 (List.mem_cons_of_mem _ (List.mem_append_right _ h9))) th_ngA hX.2.2.2.2.2.2.1.2.2.2.1 th_otA hX hP hD hS (hl.1.trans hml.symm) dX4_ifLoaded_29 dX4_ifLoaded_32 dX4_ifLoaded_33 dX4_ifLoaded_35 dX4_ifLoaded_38 hex (Nat.le_of_ble_eq_true rfl) (Nat.le_of_ble_eq_true rfl) (Nat.le_of_ble_eq_true rfl) (Nat.le_of_ble_eq_true rfl) hlocks
      · refine lv_iload_n hx hb dX4_ifLoaded_19 rfl (lv_at hl 3 rfl) ?_
        refine lv_if_lt (tgt := 29) hx hb dX4_ifLoaded_20 (by decide) (fun c_20 => ?_) (fun c_20 => ?_)
        · exact gthrow hx hb hst hown rfl (hts (.classLink RX4 35 "java/lang/IllegalArgumentException") (List.mem_of_getElem? (i := 1) rfl)) (hts (.initialized "java/lang/IllegalArgumentException") (List.mem_of_getElem? (i := 2) rfl)) (List.mem_of_getElem? (i := 14) rfl) (fun w9 h9 => hts w9 (List.mem_cons_of_mem _ (List.mem_append_right _ h9))) th_ngA hX.2.2.2.2.2.2.1.2.2.2.1 th_otA hX hP hD hS (hl.1.trans hml.symm) dX4_ifLoaded_29 dX4_ifLoaded_32 dX4_ifLoaded_33 dX4_ifLoaded_35 dX4_ifLoaded_38 hex (Nat.le_of_ble_eq_true rfl) (Nat.le_of_ble_eq_true rfl) (Nat.le_of_ble_eq_true rfl) (Nat.le_of_ble_eq_true rfl) hlocks
        · refine lv_iload_n hx hb dX4_ifLoaded_23 rfl (lv_at hl 3 rfl) ?_
          refine lv_bipush (v := 6) hx hb dX4_ifLoaded_24 (by decide) ?_
          refine lv_icmp_lt (tgt := 39) hx hb dX4_ifLoaded_26 (by decide) (fun c_26 => absurd c_26 (fun e9 => hbad ⟨c_5, inRg_of c_10 c_16, inRg_of c_20 (fun q9 => absurd ((nI_succ_le (k := 5) (by omega)).mpr q9) (Int32.not_le.mpr e9))⟩)) (fun c_26 => ?_)
          exact gthrow hx hb hst hown rfl (hts (.classLink RX4 35 "java/lang/IllegalArgumentException") (List.mem_of_getElem? (i := 1) rfl)) (hts (.initialized "java/lang/IllegalArgumentException") (List.mem_of_getElem? (i := 2) rfl)) (List.mem_of_getElem? (i := 14) rfl) (fun w9 h9 => hts w9 (List.mem_cons_of_mem _ (List.mem_append_right _ h9))) th_ngA hX.2.2.2.2.2.2.1.2.2.2.1 th_otA hX hP hD hS (hl.1.trans hml.symm) dX4_ifLoaded_29 dX4_ifLoaded_32 dX4_ifLoaded_33 dX4_ifLoaded_35 dX4_ifLoaded_38 hex (Nat.le_of_ble_eq_true rfl) (Nat.le_of_ble_eq_true rfl) (Nat.le_of_ble_eq_true rfl) (Nat.le_of_ble_eq_true rfl) hlocks

set_option maxHeartbeats 4000000 in
set_option maxRecDepth 100000 in
theorem t_X4_settles (l : Launch) (hst : l.stackTraces = false) (E : EE) (Sp : Nat → Nat) (Xp : Nat) (Cp : Nat → Nat) (sz nw : Int32) (pf : Nat → Int32) (Bp : Nat → Nat) (g z : Nat → Int32) (lo up pk : Int32) (Tp : Nat → Nat) (g2 z2 : Nat → Int32) (lo2 up2 pk2 : Int32) (Rp : Nat → Nat) (ln : Int32) (cd : Nat → Int32) (v1 : Int32) (hv : inRg v1 0 5000 = 0) : GT l yX4_settles wsX4_settles 6 82 E Sp (wO Xp Bp Tp Cp Rp ++ (wH E Cp sz nw pf ++ (wP E Bp g z lo up pk ++ (wP E Tp g2 z2 lo2 up2 pk2 ++ (wR E Rp ln cd))))) [.ref Xp, .int v1] IAE := by
  intro sz
  refine vx_ofW (cc := cX4_settles) (maxL := 5) (ret := (some .int)) (by decide) rfl ?_
  intro p e s m args below meth c s₁ B hml hex hv
  obtain ⟨⟨rfl, rfl, hP, hK, hD0, hN⟩, hX⟩ := hv
  have hx := B.exec
  have hb := B.bytes
  have hr := B.returns
  have hts := atoms_spec (ws := wsX4_settles) B.pre
  have hown : s.vm.findClass RX4 = some m.cls := findClass_of_methodNamed B.named
  have hlocks := B.notSynchronized
  have hD := hD0.self (sz := s.heap.size)
  have hA : ∀ q : Nat, s.heap.size ≤ q → va_A (wO Xp Bp Tp Cp Rp ++ (wH E Cp sz nw pf ++ (wP E Bp g z lo up pk ++ (wP E Tp g2 z2 lo2 up2 pk2 ++ (wR E Rp ln cd))))) s.heap.size q := fun q h => Or.inr h
  have hS : va_S (va_A (wO Xp Bp Tp Cp Rp ++ (wH E Cp sz nw pf ++ (wP E Bp g z lo up pk ++ (wP E Tp g2 z2 lo2 up2 pk2 ++ (wR E Rp ln cd))))) s.heap.size) s.heap s.heap [] := va_S.rf
  have hl := lv_entry ([.ref Xp, .int v1]) (n := 5) (Nat.le_of_ble_eq_true rfl)
  rw [lg_entry_eq]
  generalize (lg_sl ([.ref Xp, .int v1]) ++ List.replicate (5 - (lg_sl ([.ref Xp, .int v1])).length) Slot.unset).toArray = ls at hl ⊢
  have hl : lv_has ls 5 [(0, .ref Xp), (1, .int v1)] := hl
  refine lv_iload_n hx hb dX4_settles_0 rfl (lv_at hl 1 rfl) ?_
  refine lv_if_lt (tgt := 11) hx hb dX4_settles_1 (by decide) (fun c_1 => ?_) (fun c_1 => ?_)
  · exact gthrow hx hb hst hown rfl (hts (.classLink RX4 35 "java/lang/IllegalArgumentException") (List.mem_of_getElem? (i := 1) rfl)) (hts (.initialized "java/lang/IllegalArgumentException") (List.mem_of_getElem? (i := 2) rfl)) (List.mem_of_getElem? (i := 15) rfl) (fun w9 h9 => hts w9 (List.mem_cons_of_mem _ (List.mem_append_right _ h9))) th_ngA hX.2.2.2.2.2.2.1.2.2.2.1 th_otA hX hP hD hS (hl.1.trans hml.symm) dX4_settles_11 dX4_settles_14 dX4_settles_15 dX4_settles_17 dX4_settles_20 hex (Nat.le_of_ble_eq_true rfl) (Nat.le_of_ble_eq_true rfl) (Nat.le_of_ble_eq_true rfl) (Nat.le_of_ble_eq_true rfl) hlocks
  · refine lv_iload_n hx hb dX4_settles_4 rfl (lv_at hl 1 rfl) ?_
    refine lv_sipush (v := 5000) hx hb dX4_settles_5 (by decide) ?_
    refine lv_icmp_le (tgt := 21) hx hb dX4_settles_8 (by decide) (fun c_8 => absurd c_8 (Int32.not_le.mpr (inRg_hi hv c_1))) (fun c_8 => ?_)
    exact gthrow hx hb hst hown rfl (hts (.classLink RX4 35 "java/lang/IllegalArgumentException") (List.mem_of_getElem? (i := 1) rfl)) (hts (.initialized "java/lang/IllegalArgumentException") (List.mem_of_getElem? (i := 2) rfl)) (List.mem_of_getElem? (i := 15) rfl) (fun w9 h9 => hts w9 (List.mem_cons_of_mem _ (List.mem_append_right _ h9))) th_ngA hX.2.2.2.2.2.2.1.2.2.2.1 th_otA hX hP hD hS (hl.1.trans hml.symm) dX4_settles_11 dX4_settles_14 dX4_settles_15 dX4_settles_17 dX4_settles_20 hex (Nat.le_of_ble_eq_true rfl) (Nat.le_of_ble_eq_true rfl) (Nat.le_of_ble_eq_true rfl) (Nat.le_of_ble_eq_true rfl) hlocks

set_option maxHeartbeats 4000000 in
set_option maxRecDepth 100000 in
theorem t_X4_greatestLoad (l : Launch) (hst : l.stackTraces = false) (E : EE) (Sp : Nat → Nat) (Xp : Nat) (Cp : Nat → Nat) (sz nw : Int32) (pf : Nat → Int32) (Bp : Nat → Nat) (g z : Nat → Int32) (lo up pk : Int32) (Tp : Nat → Nat) (g2 z2 : Nat → Int32) (lo2 up2 pk2 : Int32) (Rp : Nat → Nat) (ln : Int32) (cd : Nat → Int32) (v1 : Int32) (hv : inRg v1 0 40000 = 0) : GT l yX4_greatestLoad wsX4_greatestLoad 6 82 E Sp (wO Xp Bp Tp Cp Rp ++ (wH E Cp sz nw pf ++ (wP E Bp g z lo up pk ++ (wP E Tp g2 z2 lo2 up2 pk2 ++ (wR E Rp ln cd))))) [.ref Xp, .int v1] IAE := by
  intro sz
  refine vx_ofW (cc := cX4_greatestLoad) (maxL := 3) (ret := (some .int)) (by decide) rfl ?_
  intro p e s m args below meth c s₁ B hml hex hv
  obtain ⟨⟨rfl, rfl, hP, hK, hD0, hN⟩, hX⟩ := hv
  have hx := B.exec
  have hb := B.bytes
  have hr := B.returns
  have hts := atoms_spec (ws := wsX4_greatestLoad) B.pre
  have hown : s.vm.findClass RX4 = some m.cls := findClass_of_methodNamed B.named
  have hlocks := B.notSynchronized
  have hD := hD0.self (sz := s.heap.size)
  have hA : ∀ q : Nat, s.heap.size ≤ q → va_A (wO Xp Bp Tp Cp Rp ++ (wH E Cp sz nw pf ++ (wP E Bp g z lo up pk ++ (wP E Tp g2 z2 lo2 up2 pk2 ++ (wR E Rp ln cd))))) s.heap.size q := fun q h => Or.inr h
  have hS : va_S (va_A (wO Xp Bp Tp Cp Rp ++ (wH E Cp sz nw pf ++ (wP E Bp g z lo up pk ++ (wP E Tp g2 z2 lo2 up2 pk2 ++ (wR E Rp ln cd))))) s.heap.size) s.heap s.heap [] := va_S.rf
  have hl := lv_entry ([.ref Xp, .int v1]) (n := 3) (Nat.le_of_ble_eq_true rfl)
  rw [lg_entry_eq]
  generalize (lg_sl ([.ref Xp, .int v1]) ++ List.replicate (3 - (lg_sl ([.ref Xp, .int v1])).length) Slot.unset).toArray = ls at hl ⊢
  have hl : lv_has ls 3 [(0, .ref Xp), (1, .int v1)] := hl
  refine lv_iload_n hx hb dX4_greatestLoad_0 rfl (lv_at hl 1 rfl) ?_
  refine lv_if_lt (tgt := 10) hx hb dX4_greatestLoad_1 (by decide) (fun c_1 => ?_) (fun c_1 => ?_)
  · exact gthrow hx hb hst hown rfl (hts (.classLink RX4 35 "java/lang/IllegalArgumentException") (List.mem_of_getElem? (i := 1) rfl)) (hts (.initialized "java/lang/IllegalArgumentException") (List.mem_of_getElem? (i := 2) rfl)) (List.mem_of_getElem? (i := 16) rfl) (fun w9 h9 => hts w9 (List.mem_cons_of_mem _ (List.mem_append_right _ h9))) th_ngA hX.2.2.2.2.2.2.1.2.2.2.1 th_otA hX hP hD hS (hl.1.trans hml.symm) dX4_greatestLoad_10 dX4_greatestLoad_13 dX4_greatestLoad_14 dX4_greatestLoad_16 dX4_greatestLoad_19 hex (Nat.le_of_ble_eq_true rfl) (Nat.le_of_ble_eq_true rfl) (Nat.le_of_ble_eq_true rfl) (Nat.le_of_ble_eq_true rfl) hlocks
  · refine lv_iload_n hx hb dX4_greatestLoad_4 rfl (lv_at hl 1 rfl) ?_
    refine lv_ldc (own := RX4) (v := 40000) hx hb hown (hts (.constant RX4 175 (40000)) (List.mem_of_getElem? (i := 3) rfl)) dX4_greatestLoad_5 ?_
    refine lv_icmp_le (tgt := 20) hx hb dX4_greatestLoad_7 (by decide) (fun c_7 => absurd c_7 (Int32.not_le.mpr (inRg_hi hv c_1))) (fun c_7 => ?_)
    exact gthrow hx hb hst hown rfl (hts (.classLink RX4 35 "java/lang/IllegalArgumentException") (List.mem_of_getElem? (i := 1) rfl)) (hts (.initialized "java/lang/IllegalArgumentException") (List.mem_of_getElem? (i := 2) rfl)) (List.mem_of_getElem? (i := 16) rfl) (fun w9 h9 => hts w9 (List.mem_cons_of_mem _ (List.mem_append_right _ h9))) th_ngA hX.2.2.2.2.2.2.1.2.2.2.1 th_otA hX hP hD hS (hl.1.trans hml.symm) dX4_greatestLoad_10 dX4_greatestLoad_13 dX4_greatestLoad_14 dX4_greatestLoad_16 dX4_greatestLoad_19 hex (Nat.le_of_ble_eq_true rfl) (Nat.le_of_ble_eq_true rfl) (Nat.le_of_ble_eq_true rfl) (Nat.le_of_ble_eq_true rfl) hlocks
