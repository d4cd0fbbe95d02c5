set_option maxHeartbeats 4000000 in
set_option maxRecDepth 100000 in
theorem c_X4_isSetting (l : Launch) (E : EE) (v : Int32) : GM l yX4_isSetting wsX4_isSetting 0 0 E ([]) [.int v] ([]) (some (.int (inRg v 0 14))) := by
  intro sz
  refine Met.ofW (cc := cX4_isSetting) (maxL := 1) (ret := (some .boolean)) (by decide) rfl ?_
  intro p e s m args below meth c s₁ B hml hv
  obtain ⟨rfl, rfl, hP, hK, hD0, hN⟩ := hv
  have hx := B.exec
  have hb := B.bytes
  have hr := B.returns
  have hts := atoms_spec (ws := wsX4_isSetting) B.pre
  have hown : s.vm.findClass RX4 = some m.cls := findClass_of_methodNamed B.named
  have hlocks := B.notSynchronized
  have hD := hD0.self (sz := s.heap.size)
  have hA : ∀ q : Nat, s.heap.size ≤ q → va_A ([]) s.heap.size q := fun q h => Or.inr h
  have hS : va_S (va_A ([]) s.heap.size) s.heap s.heap [] := va_S.rf
  have hl := lv_entry ([.int v]) (n := 1) (Nat.le_of_ble_eq_true rfl)
  rw [lg_entry_eq]
  generalize (lg_sl ([.int v]) ++ List.replicate (1 - (lg_sl ([.int v])).length) Slot.unset).toArray = ls at hl ⊢
  have hl : lv_has ls 1 [(0, .int v)] := hl
  refine lv_iload_n hx hb dX4_isSetting_0 rfl (lv_at hl 0 rfl) ?_
  refine lv_if_lt (tgt := 14) hx hb dX4_isSetting_1 (by decide) (fun c_1 => ?_) (fun c_1 => ?_)
  · refine lv_iconst (v := 0) hx hb dX4_isSetting_14 (by decide) ?_
    exact gretz hx hb hr hlocks hP hD hS (by first | exact Or.inl rfl | exact Or.inr rfl) (by rw [show (14 : Int32) = nI 14 from rfl, inRg_lt (by omega)]; simp only [if_pos c_1, show nI (14 + 1) = 15 from rfl]) (rfl) dX4_isSetting_15
  · refine lv_iload_n hx hb dX4_isSetting_4 rfl (lv_at hl 0 rfl) ?_
    refine lv_bipush (v := 15) hx hb dX4_isSetting_5 (by decide) ?_
    refine lv_icmp_ge (tgt := 14) hx hb dX4_isSetting_7 (by decide) (fun c_7 => ?_) (fun c_7 => ?_)
    · refine lv_iconst (v := 0) hx hb dX4_isSetting_14 (by decide) ?_
      exact gretz hx hb hr hlocks hP hD hS (by first | exact Or.inl rfl | exact Or.inr rfl) (by rw [show (14 : Int32) = nI 14 from rfl, inRg_lt (by omega)]; simp only [if_neg c_1, if_pos c_7, show nI (14 + 1) = 15 from rfl]) (rfl) dX4_isSetting_15
    · refine lv_iconst (v := 1) hx hb dX4_isSetting_10 (by decide) ?_
      refine lv_goto (tgt := 15) hx hb dX4_isSetting_11 (by decide) ?_
      exact gretz hx hb hr hlocks hP hD hS (by first | exact Or.inl rfl | exact Or.inr rfl) (by rw [show (14 : Int32) = nI 14 from rfl, inRg_lt (by omega)]; simp only [if_neg c_1, if_neg c_7, show nI (14 + 1) = 15 from rfl]) (rfl) dX4_isSetting_15

set_option maxHeartbeats 4000000 in
set_option maxRecDepth 100000 in
theorem c_X4_isRunLength (l : Launch) (E : EE) (v : Int32) : GM l yX4_isRunLength wsX4_isRunLength 0 0 E ([]) [.int v] ([]) (some (.int (inRg v 1 200))) := by
  intro sz
  refine Met.ofW (cc := cX4_isRunLength) (maxL := 1) (ret := (some .boolean)) (by decide) rfl ?_
  intro p e s m args below meth c s₁ B hml hv
  obtain ⟨rfl, rfl, hP, hK, hD0, hN⟩ := hv
  have hx := B.exec
  have hb := B.bytes
  have hr := B.returns
  have hts := atoms_spec (ws := wsX4_isRunLength) B.pre
  have hown : s.vm.findClass RX4 = some m.cls := findClass_of_methodNamed B.named
  have hlocks := B.notSynchronized
  have hD := hD0.self (sz := s.heap.size)
  have hA : ∀ q : Nat, s.heap.size ≤ q → va_A ([]) s.heap.size q := fun q h => Or.inr h
  have hS : va_S (va_A ([]) s.heap.size) s.heap s.heap [] := va_S.rf
  have hl := lv_entry ([.int v]) (n := 1) (Nat.le_of_ble_eq_true rfl)
  rw [lg_entry_eq]
  generalize (lg_sl ([.int v]) ++ List.replicate (1 - (lg_sl ([.int v])).length) Slot.unset).toArray = ls at hl ⊢
  have hl : lv_has ls 1 [(0, .int v)] := hl
  refine lv_iload_n hx hb dX4_isRunLength_0 rfl (lv_at hl 0 rfl) ?_
  refine lv_iconst (v := 1) hx hb dX4_isRunLength_1 (by decide) ?_
  refine lv_icmp_lt (tgt := 16) hx hb dX4_isRunLength_2 (by decide) (fun c_2 => ?_) (fun c_2 => ?_)
  · refine lv_iconst (v := 0) hx hb dX4_isRunLength_16 (by decide) ?_
    exact gretz hx hb hr hlocks hP hD hS (by first | exact Or.inl rfl | exact Or.inr rfl) (by simp only [inRg, if_pos c_2]) (rfl) dX4_isRunLength_17
  · refine lv_iload_n hx hb dX4_isRunLength_5 rfl (lv_at hl 0 rfl) ?_
    refine lv_sipush (v := 200) hx hb dX4_isRunLength_6 (by decide) ?_
    refine lv_icmp_gt (tgt := 16) hx hb dX4_isRunLength_9 (by decide) (fun c_9 => ?_) (fun c_9 => ?_)
    · refine lv_iconst (v := 0) hx hb dX4_isRunLength_16 (by decide) ?_
      exact gretz hx hb hr hlocks hP hD hS (by first | exact Or.inl rfl | exact Or.inr rfl) (by simp only [inRg, if_neg c_2, if_pos c_9]) (rfl) dX4_isRunLength_17
    · refine lv_iconst (v := 1) hx hb dX4_isRunLength_12 (by decide) ?_
      refine lv_goto (tgt := 17) hx hb dX4_isRunLength_13 (by decide) ?_
      exact gretz hx hb hr hlocks hP hD hS (by first | exact Or.inl rfl | exact Or.inr rfl) (by simp only [inRg, if_neg c_2, if_neg c_9]) (rfl) dX4_isRunLength_17

set_option maxHeartbeats 4000000 in
set_option maxRecDepth 100000 in
theorem c_X4_settingOf (l : Launch) (E : EE) (v : Int32) : GM l yX4_settingOf wsX4_settingOf 0 0 E ([]) [.int v] ([]) (some (.int (sofI v))) := by
  intro sz
  refine Met.ofW (cc := cX4_settingOf) (maxL := 1) (ret := (some .int)) (by decide) rfl ?_
  intro p e s m args below meth c s₁ B hml hv
  obtain ⟨rfl, rfl, hP, hK, hD0, hN⟩ := hv
  have hx := B.exec
  have hb := B.bytes
  have hr := B.returns
  have hts := atoms_spec (ws := wsX4_settingOf) B.pre
  have hown : s.vm.findClass RX4 = some m.cls := findClass_of_methodNamed B.named
  have hlocks := B.notSynchronized
  have hD := hD0.self (sz := s.heap.size)
  have hA : ∀ q : Nat, s.heap.size ≤ q → va_A ([]) s.heap.size q := fun q h => Or.inr h
  have hS : va_S (va_A ([]) s.heap.size) s.heap s.heap [] := va_S.rf
  have hl := lv_entry ([.int v]) (n := 1) (Nat.le_of_ble_eq_true rfl)
  rw [lg_entry_eq]
  generalize (lg_sl ([.int v]) ++ List.replicate (1 - (lg_sl ([.int v])).length) Slot.unset).toArray = ls at hl ⊢
  have hl : lv_has ls 1 [(0, .int v)] := hl
  refine lv_iload_n hx hb dX4_settingOf_0 rfl (lv_at hl 0 rfl) ?_
  by_cases q_1_99 : v = 99
  · refine lv_lookup (off := 49) (tgt := 50) hx hb dX4_settingOf_1 (by decide) (by rw [q_1_99]; decide) (by decide) ?_
    refine lv_iconst (v := 5) hx hb dX4_settingOf_50 (by decide) ?_
    exact greti hx hb hr hlocks hP hD hS (by simp only [sofI, if_pos q_1_99]) (rfl) dX4_settingOf_51
  by_cases q_1_105 : v = 105
  · refine lv_lookup (off := 43) (tgt := 44) hx hb dX4_settingOf_1 (by decide) (by rw [q_1_105]; decide) (by decide) ?_
    refine lv_iconst (v := 0) hx hb dX4_settingOf_44 (by decide) ?_
    exact greti hx hb hr hlocks hP hD hS (by simp only [sofI, if_neg q_1_99, if_pos q_1_105]) (rfl) dX4_settingOf_45
  by_cases q_1_108 : v = 108
  · refine lv_lookup (off := 47) (tgt := 48) hx hb dX4_settingOf_1 (by decide) (by rw [q_1_108]; decide) (by decide) ?_
    refine lv_iconst (v := 2) hx hb dX4_settingOf_48 (by decide) ?_
    exact greti hx hb hr hlocks hP hD hS (by simp only [sofI, if_neg q_1_99, if_neg q_1_105, if_pos q_1_108]) (rfl) dX4_settingOf_49
  by_cases q_1_116 : v = 116
  · refine lv_lookup (off := 45) (tgt := 46) hx hb dX4_settingOf_1 (by decide) (by rw [q_1_116]; decide) (by decide) ?_
    refine lv_iconst (v := 1) hx hb dX4_settingOf_46 (by decide) ?_
    exact greti hx hb hr hlocks hP hD hS (by simp only [sofI, if_neg q_1_99, if_neg q_1_105, if_neg q_1_108, if_pos q_1_116]) (rfl) dX4_settingOf_47
  refine lv_lookup (off := 51) (tgt := 52) hx hb dX4_settingOf_1 (by decide) ((lv_osw (k := 99) q_1_99 (by decide)).trans ((lv_osw (k := 105) q_1_105 (by decide)).trans ((lv_osw (k := 108) q_1_108 (by decide)).trans ((lv_osw (k := 116) q_1_116 (by decide)).trans (rfl))))) (by decide) ?_
  refine lv_iconst (v := (-1)) hx hb dX4_settingOf_52 (by decide) ?_
  exact greti hx hb hr hlocks hP hD hS (by simp only [sofI, if_neg q_1_99, if_neg q_1_105, if_neg q_1_108, if_neg q_1_116]) (rfl) dX4_settingOf_53

set_option maxHeartbeats 4000000 in
set_option maxRecDepth 100000 in
theorem c_X4_fits (l : Launch) (E : EE) (Sp : Nat → Nat) (v w : Int32) : GX l yX4_fits wsX4_fits 1 20 E Sp ([]) [.int v, .int w] ([]) (some (.int (fitI v w))) := by
  intro sz
  refine Met.ofW (cc := cX4_fits) (maxL := 2) (ret := (some .boolean)) (by decide) rfl ?_
  intro p e s m args below meth c s₁ B hml hv
  obtain ⟨⟨rfl, rfl, hP, hK, hD0, hN⟩, hX⟩ := hv
  have hx := B.exec
  have hb := B.bytes
  have hr := B.returns
  have hts := atoms_spec (ws := wsX4_fits) B.pre
  have hown : s.vm.findClass RX4 = some m.cls := findClass_of_methodNamed B.named
  have hlocks := B.notSynchronized
  have hD := hD0.self (sz := s.heap.size)
  have hA : ∀ q : Nat, s.heap.size ≤ q → va_A ([]) s.heap.size q := fun q h => Or.inr h
  have hS : va_S (va_A ([]) s.heap.size) s.heap s.heap [] := va_S.rf
  have hl := lv_entry ([.int v, .int w]) (n := 2) (Nat.le_of_ble_eq_true rfl)
  rw [lg_entry_eq]
  generalize (lg_sl ([.int v, .int w]) ++ List.replicate (2 - (lg_sl ([.int v, .int w])).length) Slot.unset).toArray = ls at hl ⊢
  have hl : lv_has ls 2 [(0, .int v), (1, .int w)] := hl
  have hf216 := hts (.fieldLink RX4 216 "PhaseConverter" "LEAST" "[I") (List.mem_of_getElem? (i := 1) rfl)
  have hf219 := hts (.fieldLink RX4 219 "PhaseConverter" "GREATEST" "[I") (List.mem_of_getElem? (i := 2) rfl)
  refine lv_iload_n hx hb dX4_fits_0 rfl (lv_at hl 0 rfl) ?_
  refine gsPi (As := [.int v]) (rest := []) ⟨hx, hb, hml, hown, hts⟩ (c_X4_isSetting l E v) (va_cwS 1 hts gX4_fits_X4_isSetting rfl rfl rfl (by decide +kernel) ⟨Nat.le_of_ble_eq_true rfl, Nat.le_of_ble_eq_true rfl⟩) hP hK hD hN hS hA rfl hl.1 rfl (Nat.le_of_ble_eq_true rfl) dX4_fits_1 ⟨Nat.le_refl _, Nat.le_refl _⟩ (fun H locs hP hD hS => ?_)
  refine lv_if_eq (tgt := 29) hx hb dX4_fits_4 (by decide) (fun c_4 => ?_) (fun c_4 => ?_)
  · refine lv_iconst (v := 0) hx hb dX4_fits_29 (by decide) ?_
    exact gretz hx hb hr hlocks hP hD hS (by first | exact Or.inl rfl | exact Or.inr rfl) (by unfold fitI; simp only [if_pos c_4] <;> first | rfl | (unfold inRg; simp only [if_pos c_4])) (rfl) dX4_fits_30
  · have hix := inRg_ix (n := 14) (by decide) c_4
    refine lv_iload_n hx hb dX4_fits_7 rfl (lv_at hl 1 rfl) ?_
    refine va_gets (C := RX4) hx hb hX.2.1.1 hS hown hf216 (fun _ h9 => h9) dX4_fits_8 ?_
    refine lv_iload_n hx hb dX4_fits_11 rfl (lv_at hl 0 rfl) ?_
    refine gsld (x := lowT v.toNatClampNeg) hx hb hX.2.1 hS v.toNatClampNeg (hix.1.symm) (hix.2) rfl dX4_fits_12 ?_
    refine lv_icmp_lt (tgt := 29) hx hb dX4_fits_13 (by decide) (fun c_13 => ?_) (fun c_13 => ?_)
    · refine lv_iconst (v := 0) hx hb dX4_fits_29 (by decide) ?_
      exact gretz hx hb hr hlocks hP hD hS (by first | exact Or.inl rfl | exact Or.inr rfl) (by unfold fitI; simp only [if_neg c_4, if_pos c_13] <;> first | rfl | (unfold inRg; simp only [if_neg c_4, if_pos c_13])) (rfl) dX4_fits_30
    · refine lv_iload_n hx hb dX4_fits_16 rfl (lv_at hl 1 rfl) ?_
      refine va_gets (C := RX4) hx hb hX.2.2.1.1 hS hown hf219 (fun _ h9 => h9) dX4_fits_17 ?_
      refine lv_iload_n hx hb dX4_fits_20 rfl (lv_at hl 0 rfl) ?_
      refine gsld (x := highT v.toNatClampNeg) hx hb hX.2.2.1 hS v.toNatClampNeg (hix.1.symm) (hix.2) rfl dX4_fits_21 ?_
      refine lv_icmp_gt (tgt := 29) hx hb dX4_fits_22 (by decide) (fun c_22 => ?_) (fun c_22 => ?_)
      · refine lv_iconst (v := 0) hx hb dX4_fits_29 (by decide) ?_
        exact gretz hx hb hr hlocks hP hD hS (by first | exact Or.inl rfl | exact Or.inr rfl) (by unfold fitI; simp only [if_neg c_4, if_neg c_13, if_pos c_22] <;> first | rfl | (unfold inRg; simp only [if_neg c_4, if_neg c_13, if_pos c_22])) (rfl) dX4_fits_30
      · refine lv_iconst (v := 1) hx hb dX4_fits_25 (by decide) ?_
        refine lv_goto (tgt := 30) hx hb dX4_fits_26 (by decide) ?_
        exact gretz hx hb hr hlocks hP hD hS (by first | exact Or.inl rfl | exact Or.inr rfl) (by unfold fitI; simp only [if_neg c_4, if_neg c_13, if_neg c_22] <;> first | rfl | (unfold inRg; simp only [if_neg c_4, if_neg c_13, if_neg c_22])) (rfl) dX4_fits_30

set_option maxHeartbeats 4000000 in
set_option maxRecDepth 100000 in
theorem c_X4_hasRoomFor (l : Launch) (E : EE) (Xp : Nat) (Cp : Nat → Nat) (sz nw : Int32) (pf : Nat → Int32) (Bp : Nat → Nat) (g z : Nat → Int32) (lo up pk : Int32) (Tp : Nat → Nat) (g2 z2 : Nat → Int32) (lo2 up2 pk2 : Int32) (Rp : Nat → Nat) (ln : Int32) (cd : Nat → Int32) (v1 : Int32) : GM l yX4_hasRoomFor wsX4_hasRoomFor 0 0 E (wO Xp Bp Tp Cp Rp ++ (wH E Cp sz nw pf ++ (wP E Bp g z lo up pk ++ (wP E Tp g2 z2 lo2 up2 pk2 ++ (wR E Rp ln cd))))) [.ref Xp, .int v1] (wO Xp Bp Tp Cp Rp ++ (wH E Cp sz nw pf ++ (wP E Bp g z lo up pk ++ (wP E Tp g2 z2 lo2 up2 pk2 ++ (wR E Rp ln cd))))) (some (.int (romI v1 z))) := by
  intro sz
  refine Met.ofW (cc := cX4_hasRoomFor) (maxL := 2) (ret := (some .boolean)) (by decide) rfl ?_
  intro p e s m args below meth c s₁ B hml hv
  obtain ⟨rfl, rfl, hP, hK, hD0, hN⟩ := hv
  have hx := B.exec
  have hb := B.bytes
  have hr := B.returns
  have hts := atoms_spec (ws := wsX4_hasRoomFor) B.pre
  have hown : s.vm.findClass RX4 = some m.cls := findClass_of_methodNamed B.named
  have hlocks := B.notSynchronized
  have hD := hD0.self (sz := s.heap.size)
  have hA : ∀ q : Nat, s.heap.size ≤ q → va_A (wO Xp Bp Tp Cp Rp ++ (wH E Cp sz nw pf ++ (wP E Bp g z lo up pk ++ (wP E Tp g2 z2 lo2 up2 pk2 ++ (wR E Rp ln cd))))) s.heap.size q := fun q h => Or.inr h
  have hS : va_S (va_A (wO Xp Bp Tp Cp Rp ++ (wH E Cp sz nw pf ++ (wP E Bp g z lo up pk ++ (wP E Tp g2 z2 lo2 up2 pk2 ++ (wR E Rp ln cd))))) s.heap.size) s.heap s.heap [] := va_S.rf
  have hl := lv_entry ([.ref Xp, .int v1]) (n := 2) (Nat.le_of_ble_eq_true rfl)
  rw [lg_entry_eq]
  generalize (lg_sl ([.ref Xp, .int v1]) ++ List.replicate (2 - (lg_sl ([.ref Xp, .int v1])).length) Slot.unset).toArray = ls at hl ⊢
  have hl : lv_has ls 2 [(0, .ref Xp), (1, .int v1)] := hl
  have hf14 := hts (.fieldLink RX4 14 "PhaseConverter" "plant" "LPhaseConverter$Plant;") (List.mem_of_getElem? (i := 1) rfl)
  have hf222 := hts (.fieldLink RX4 222 "PhaseConverter$Plant" "cycles" "I") (List.mem_of_getElem? (i := 2) rfl)
  have hiX2 : ∀ w ∈ u_ws RX2 TX2 17, w ∈ wsX4_hasRoomFor := memIn [8, 9, 10, 11, 12, 13, 14, 15, 16, 17, 18, 19, 20, 21, 22, 23, 24] rfl
  have hiX4 : ∀ w ∈ u_ws RX4 TX4 4, w ∈ wsX4_hasRoomFor := memIn [4, 5, 6, 7] rfl
  refine lv_aload_n hx hb dX4_hasRoomFor_0 rfl (lv_at hl 0 rfl) ?_
  refine va_get (D := E.1) (ci := 4) (v := .ref (Bp 0)) (C := RX4) (T := TX4) (N := 4) hx hb hts hiX4 hown hK hP 0 rfl rfl 0 (by decide) hf14 (fun _ h9 => h9) rfl dX4_hasRoomFor_1 ?_
  refine va_get (D := E.1) (ci := 2) (v := .int (z 24)) (C := RX2) (T := TX2) (N := 17) hx hb hts hiX2 hown hK hP 3 rfl rfl 11 (by decide) hf222 (fun _ h9 => h9) rfl dX4_hasRoomFor_4 ?_
  refine lv_iload_n hx hb dX4_hasRoomFor_7 rfl (lv_at hl 1 rfl) ?_
  refine lv_iadd hx hb dX4_hasRoomFor_8 ?_
  refine lv_ldc (own := RX4) (v := 100000) hx hb hown (hts (.constant RX4 225 (100000)) (List.mem_of_getElem? (i := 3) rfl)) dX4_hasRoomFor_9 ?_
  refine lv_icmp_gt (tgt := 18) hx hb dX4_hasRoomFor_11 (by decide) (fun c_11 => ?_) (fun c_11 => ?_)
  · refine lv_iconst (v := 0) hx hb dX4_hasRoomFor_18 (by decide) ?_
    exact gretz hx hb hr hlocks hP hD hS (by first | exact Or.inl rfl | exact Or.inr rfl) (by simp only [romI, if_pos c_11]) (rfl) dX4_hasRoomFor_19
  · refine lv_iconst (v := 1) hx hb dX4_hasRoomFor_14 (by decide) ?_
    refine lv_goto (tgt := 19) hx hb dX4_hasRoomFor_15 (by decide) ?_
    exact gretz hx hb hr hlocks hP hD hS (by first | exact Or.inl rfl | exact Or.inr rfl) (by simp only [romI, if_neg c_11]) (rfl) dX4_hasRoomFor_19

set_option maxHeartbeats 4000000 in
set_option maxRecDepth 100000 in
theorem c_X4_number (l : Launch) (E : EE) (Xp : Nat) (Cp : Nat → Nat) (sz nw : Int32) (pf : Nat → Int32) (Bp : Nat → Nat) (g z : Nat → Int32) (lo up pk : Int32) (Tp : Nat → Nat) (g2 z2 : Nat → Int32) (lo2 up2 pk2 : Int32) (Rp : Nat → Nat) (ln : Int32) (cd : Nat → Int32) (k0 : Nat) (hz : zOK z) (hk : k0 < 15) : GM l yX4_number wsX4_number 2 43 E (wO Xp Bp Tp Cp Rp ++ (wH E Cp sz nw pf ++ (wP E Bp g z lo up pk ++ (wP E Tp g2 z2 lo2 up2 pk2 ++ (wR E Rp ln cd))))) [.ref Xp, .int (nI k0)] (wO Xp Bp Tp Cp Rp ++ (wH E Cp sz nw pf ++ (wP E Bp g z lo up pk ++ (wP E Tp g2 z2 lo2 up2 pk2 ++ (wR E Rp ln cd))))) (some (.int (nuX k0 sz z lo up pk))) := by
  intro sz
  refine Met.ofW (cc := cX4_number) (maxL := 2) (ret := (some .int)) (by decide) rfl ?_
  intro p e s m args below meth c s₁ B hml hv
  obtain ⟨rfl, rfl, hP, hK, hD0, hN⟩ := hv
  have hx := B.exec
  have hb := B.bytes
  have hr := B.returns
  have hts := atoms_spec (ws := wsX4_number) B.pre
  have hown : s.vm.findClass RX4 = some m.cls := findClass_of_methodNamed B.named
  have hlocks := B.notSynchronized
  have hD := hD0.self (sz := s.heap.size)
  have hA : ∀ q : Nat, s.heap.size ≤ q → va_A (wO Xp Bp Tp Cp Rp ++ (wH E Cp sz nw pf ++ (wP E Bp g z lo up pk ++ (wP E Tp g2 z2 lo2 up2 pk2 ++ (wR E Rp ln cd))))) s.heap.size q := fun q h => Or.inr h
  have hS : va_S (va_A (wO Xp Bp Tp Cp Rp ++ (wH E Cp sz nw pf ++ (wP E Bp g z lo up pk ++ (wP E Tp g2 z2 lo2 up2 pk2 ++ (wR E Rp ln cd))))) s.heap.size) s.heap s.heap [] := va_S.rf
  have hl := lv_entry ([.ref Xp, .int (nI k0)]) (n := 2) (Nat.le_of_ble_eq_true rfl)
  rw [lg_entry_eq]
  generalize (lg_sl ([.ref Xp, .int (nI k0)]) ++ List.replicate (2 - (lg_sl ([.ref Xp, .int (nI k0)])).length) Slot.unset).toArray = ls at hl ⊢
  have hl : lv_has ls 2 [(0, .ref Xp), (1, .int (nI k0))] := hl
  have hf14 := hts (.fieldLink RX4 14 "PhaseConverter" "plant" "LPhaseConverter$Plant;") (List.mem_of_getElem? (i := 3) rfl)
  have hf156 := hts (.fieldLink RX4 156 "PhaseConverter$History" "size" "I") (List.mem_of_getElem? (i := 2) rfl)
  have hf24 := hts (.fieldLink RX4 24 "PhaseConverter" "history" "LPhaseConverter$History;") (List.mem_of_getElem? (i := 1) rfl)
  have hiX0 : ∀ w ∈ u_ws RX0 TX0 3, w ∈ wsX4_number := memIn [41, 42, 43] rfl
  have hiX4 : ∀ w ∈ u_ws RX4 TX4 4, w ∈ wsX4_number := memIn [37, 38, 39, 40] rfl
  refine lv_iload_n hx hb dX4_number_0 rfl (lv_at hl 1 rfl) ?_
  refine lv_bipush (v := 14) hx hb dX4_number_1 (by decide) ?_
  refine lv_icmp_ne (tgt := 16) hx hb dX4_number_3 (by decide) (fun c_3 => ?_) (fun c_3 => ?_)
  · refine lv_aload_n hx hb dX4_number_16 rfl (lv_at hl 0 rfl) ?_
    refine va_get (D := E.1) (ci := 4) (v := .ref (Bp 0)) (C := RX4) (T := TX4) (N := 4) hx hb hts hiX4 hown hK hP 0 rfl rfl 0 (by decide) hf14 (fun _ h9 => h9) rfl dX4_number_17 ?_
    refine lv_iload_n hx hb dX4_number_20 rfl (lv_at hl 1 rfl) ?_
    refine gvMi (wO Xp Bp Tp Cp Rp ++ (wH E Cp sz nw pf)) (wP E Tp g2 z2 lo2 up2 pk2 ++ (wR E Rp ln cd)) (As := [.int (nI k0)]) (rest := []) ⟨hx, hb, hml, hown, hts⟩ (c_X2_number l E Bp g z lo up pk k0 hz (num_lt hk c_3)) (cwV 1 hts gX4_number_X2_number rfl rfl rfl (by decide +kernel) ⟨Nat.le_of_ble_eq_true rfl, Nat.le_of_ble_eq_true rfl⟩) (va_recv hK hP (ci := 2) (q0 := 3) rfl rfl) hP hK hD hN hS hA rfl hl.1 rfl (Nat.le_of_ble_eq_true rfl) dX4_number_21 ⟨Nat.le_refl _, Nat.le_refl _⟩ (fun H locs hP hD hS => ?_)
    have hP : va_P E.1 vwCl (wO Xp Bp Tp Cp Rp ++ (wH E Cp sz nw pf ++ (wP E Bp g z lo up pk ++ (wP E Tp g2 z2 lo2 up2 pk2 ++ (wR E Rp ln cd))))) H := hP
    have hD : va_D _ (wO Xp Bp Tp Cp Rp ++ (wH E Cp sz nw pf ++ (wP E Bp g z lo up pk ++ (wP E Tp g2 z2 lo2 up2 pk2 ++ (wR E Rp ln cd))))) := hD
    exact greti hx hb hr hlocks hP hD hS (by simp only [nuX, if_neg c_3]) (rfl) dX4_number_24
  · refine lv_aload_n hx hb dX4_number_6 rfl (lv_at hl 0 rfl) ?_
    refine va_get (D := E.1) (ci := 4) (v := .ref (Cp 0)) (C := RX4) (T := TX4) (N := 4) hx hb hts hiX4 hown hK hP 0 rfl rfl 2 (by decide) hf24 (fun _ h9 => h9) rfl dX4_number_7 ?_
    refine va_get (D := E.1) (ci := 0) (v := .int sz) (C := RX0) (T := TX0) (N := 3) hx hb hts hiX0 hown hK hP 1 rfl rfl 1 (by decide) hf156 (fun _ h9 => h9) rfl dX4_number_10 ?_
    refine lv_goto (tgt := 24) hx hb dX4_number_13 (by decide) ?_
    exact greti hx hb hr hlocks hP hD hS (by simp only [nuX, if_pos c_3]) (rfl) dX4_number_24

set_option maxHeartbeats 4000000 in
set_option maxRecDepth 100000 in
theorem c_X4_beginTrial (l : Launch) (E : EE) (Xp : Nat) (Cp : Nat → Nat) (sz nw : Int32) (pf : Nat → Int32) (Bp : Nat → Nat) (g z : Nat → Int32) (lo up pk : Int32) (Tp : Nat → Nat) (g2 z2 : Nat → Int32) (lo2 up2 pk2 : Int32) (Rp : Nat → Nat) (ln : Int32) (cd : Nat → Int32) : GM l yX4_beginTrial wsX4_beginTrial 2 43 E (wO Xp Bp Tp Cp Rp ++ (wH E Cp sz nw pf ++ (wP E Bp g z lo up pk ++ (wP E Tp g2 z2 lo2 up2 pk2 ++ (wR E Rp ln cd))))) [.ref Xp] (wO Xp Bp Tp Cp Rp ++ (wH E Cp sz nw pf ++ (wP E Bp g z lo up pk ++ (wP E Tp (va_cpy g g2 0 0 15) z lo up pk ++ (wR E Rp ln cd))))) (none) := by
  intro sz
  refine Met.ofW (cc := cX4_beginTrial) (maxL := 1) (ret := none) (by decide) rfl ?_
  intro p e s m args below meth c s₁ B hml hv
  obtain ⟨rfl, rfl, hP, hK, hD0, hN⟩ := hv
  have hx := B.exec
  have hb := B.bytes
  have hr := B.returns
  have hts := atoms_spec (ws := wsX4_beginTrial) B.pre
  have hown : s.vm.findClass RX4 = some m.cls := findClass_of_methodNamed B.named
  have hlocks := B.notSynchronized
  have hD := hD0.self (sz := s.heap.size)
  have hA : ∀ q : Nat, s.heap.size ≤ q → va_A (wO Xp Bp Tp Cp Rp ++ (wH E Cp sz nw pf ++ (wP E Bp g z lo up pk ++ (wP E Tp g2 z2 lo2 up2 pk2 ++ (wR E Rp ln cd))))) s.heap.size q := fun q h => Or.inr h
  have hS : va_S (va_A (wO Xp Bp Tp Cp Rp ++ (wH E Cp sz nw pf ++ (wP E Bp g z lo up pk ++ (wP E Tp g2 z2 lo2 up2 pk2 ++ (wR E Rp ln cd))))) s.heap.size) s.heap s.heap [] := va_S.rf
  have hl := lv_entry ([.ref Xp]) (n := 1) (Nat.le_of_ble_eq_true rfl)
  rw [lg_entry_eq]
  generalize (lg_sl ([.ref Xp]) ++ List.replicate (1 - (lg_sl ([.ref Xp])).length) Slot.unset).toArray = ls at hl ⊢
  have hl : lv_has ls 1 [(0, .ref Xp)] := hl
  have hf14 := hts (.fieldLink RX4 14 "PhaseConverter" "plant" "LPhaseConverter$Plant;") (List.mem_of_getElem? (i := 2) rfl)
  have hf18 := hts (.fieldLink RX4 18 "PhaseConverter" "trial" "LPhaseConverter$Plant;") (List.mem_of_getElem? (i := 1) rfl)
  have hiX4 : ∀ w ∈ u_ws RX4 TX4 4, w ∈ wsX4_beginTrial := memIn [41, 42, 43, 44] rfl
  refine lv_aload_n hx hb dX4_beginTrial_0 rfl (lv_at hl 0 rfl) ?_
  refine va_get (D := E.1) (ci := 4) (v := .ref (Tp 0)) (C := RX4) (T := TX4) (N := 4) hx hb hts hiX4 hown hK hP 0 rfl rfl 1 (by decide) hf18 (fun _ h9 => h9) rfl dX4_beginTrial_1 ?_
  refine lv_aload_n hx hb dX4_beginTrial_4 rfl (lv_at hl 0 rfl) ?_
  refine va_get (D := E.1) (ci := 4) (v := .ref (Bp 0)) (C := RX4) (T := TX4) (N := 4) hx hb hts hiX4 hown hK hP 0 rfl rfl 0 (by decide) hf14 (fun _ h9 => h9) rfl dX4_beginTrial_5 ?_
  refine gvMv (wO Xp Bp Tp Cp Rp ++ (wH E Cp sz nw pf)) (wR E Rp ln cd) (As := [.ref (Bp 0)]) (rest := []) ⟨hx, hb, hml, hown, hts⟩ (c_X2_copyFrom l E Bp g z lo up pk Tp g2 z2 lo2 up2 pk2) (cwV 1 hts gX4_beginTrial_X2_copyFrom rfl rfl rfl (by decide +kernel) ⟨Nat.le_of_ble_eq_true rfl, Nat.le_of_ble_eq_true rfl⟩) (va_recv hK hP (ci := 2) (q0 := 10) rfl rfl) hP hK hD hN hS hA rfl hl.1 rfl (Nat.le_of_ble_eq_true rfl) dX4_beginTrial_8 ⟨Nat.le_refl _, Nat.le_refl _⟩ (fun H locs hP hD hS => ?_)
  have hP : va_P E.1 vwCl (wO Xp Bp Tp Cp Rp ++ (wH E Cp sz nw pf ++ (wP E Bp g z lo up pk ++ (wP E Tp (va_cpy g g2 0 0 15) z lo up pk ++ (wR E Rp ln cd))))) H := hP
  have hD : va_D _ (wO Xp Bp Tp Cp Rp ++ (wH E Cp sz nw pf ++ (wP E Bp g z lo up pk ++ (wP E Tp (va_cpy g g2 0 0 15) z lo up pk ++ (wR E Rp ln cd))))) := hD
  exact gretv hx hb hr hlocks hP hD hS (rfl) dX4_beginTrial_11

set_option maxHeartbeats 4000000 in
set_option maxRecDepth 100000 in
theorem c_X4_passCycles (l : Launch) (E : EE) (Xp : Nat) (Cp : Nat → Nat) (sz nw : Int32) (pf : Nat → Int32) (Bp : Nat → Nat) (g z : Nat → Int32) (lo up pk : Int32) (Tp : Nat → Nat) (g2 z2 : Nat → Int32) (lo2 up2 pk2 : Int32) (Rp : Nat → Nat) (ln : Int32) (cd : Nat → Int32) (V : Nat) (hV : V ≤ 200) (hg : ∀ k, k < 15 → g k = z k) (hz : zOK z) (hZ : zZ z) (hrk : rOK sz nw) : GM l yX4_passCycles wsX4_passCycles 4 91 E (wO Xp Bp Tp Cp Rp ++ (wH E Cp sz nw pf ++ (wP E Bp g z lo up pk ++ (wP E Tp g2 z2 lo2 up2 pk2 ++ (wR E Rp ln cd))))) [.ref Xp, .int (nI V)] (wO Xp Bp Tp Cp Rp ++ (wH E Cp ((pcsL V ((z, lo, up, pk), (sz, nw, pf))).2.1) ((pcsL V ((z, lo, up, pk), (sz, nw, pf))).2.2.1) ((pcsL V ((z, lo, up, pk), (sz, nw, pf))).2.2.2) ++ (wP E Bp g ((pcsL V ((z, lo, up, pk), (sz, nw, pf))).1.1) ((pcsL V ((z, lo, up, pk), (sz, nw, pf))).1.2.1) ((pcsL V ((z, lo, up, pk), (sz, nw, pf))).1.2.2.1) ((pcsL V ((z, lo, up, pk), (sz, nw, pf))).1.2.2.2) ++ (wP E Tp g2 z2 lo2 up2 pk2 ++ (wR E Rp ln cd))))) (none) := by
  intro sz
  refine Met.ofW (cc := cX4_passCycles) (maxL := 4) (ret := none) (by decide) rfl ?_
  intro p e s m args below meth c s₁ B hml hv
  obtain ⟨rfl, rfl, hP, hK, hD0, hN⟩ := hv
  have hx := B.exec
  have hb := B.bytes
  have hr := B.returns
  have hts := atoms_spec (ws := wsX4_passCycles) B.pre
  have hown : s.vm.findClass RX4 = some m.cls := findClass_of_methodNamed B.named
  have hlocks := B.notSynchronized
  have hD := hD0.self (sz := s.heap.size)
  have hA : ∀ q : Nat, s.heap.size ≤ q → va_A (wO Xp Bp Tp Cp Rp ++ (wH E Cp sz nw pf ++ (wP E Bp g z lo up pk ++ (wP E Tp g2 z2 lo2 up2 pk2 ++ (wR E Rp ln cd))))) s.heap.size q := fun q h => Or.inr h
  have hS : va_S (va_A (wO Xp Bp Tp Cp Rp ++ (wH E Cp sz nw pf ++ (wP E Bp g z lo up pk ++ (wP E Tp g2 z2 lo2 up2 pk2 ++ (wR E Rp ln cd))))) s.heap.size) s.heap s.heap [] := va_S.rf
  have hl := lv_entry ([.ref Xp, .int (nI V)]) (n := 4) (Nat.le_of_ble_eq_true rfl)
  rw [lg_entry_eq]
  generalize (lg_sl ([.ref Xp, .int (nI V)]) ++ List.replicate (4 - (lg_sl ([.ref Xp, .int (nI V)])).length) Slot.unset).toArray = ls at hl ⊢
  have hl : lv_has ls 4 [(0, .ref Xp), (1, .int (nI V))] := hl
  have hf14 := hts (.fieldLink RX4 14 "PhaseConverter" "plant" "LPhaseConverter$Plant;") (List.mem_of_getElem? (i := 1) rfl)
  have hf24 := hts (.fieldLink RX4 24 "PhaseConverter" "history" "LPhaseConverter$History;") (List.mem_of_getElem? (i := 2) rfl)
  have hiX4 : ∀ w ∈ u_ws RX4 TX4 4, w ∈ wsX4_passCycles := memIn [128, 129, 130, 131] rfl
  refine lv_iconst (v := 0) hx hb dX4_passCycles_0 (by decide) ?_
  refine lv_istore_n (lv' := [(2, .int 0), (0, .ref Xp), (1, .int (nI V))]) hx hb dX4_passCycles_1 rfl hl (by decide) rfl (fun ls hl => ?_)
  have L_2 : ∀ (n i : Nat) (z3 : Nat → Int32) (l3 : Int32) (u3 : Int32) (q3 : Int32) (s3 : Int32) (n3 : Int32) (f3 : Nat → Int32) (H : Heap) (locs : List Loc) (ls : Array Slot), (i + n = V) → (zOK z3) → (zZ z3) → (∀ k, k < 15 → g k = z3 k) → (rOK s3 n3) → (pcsL n ((z3, l3, u3, q3), (s3, n3, f3)) = pcsL V ((z, lo, up, pk), (sz, nw, pf))) → va_P E.1 vwCl (wO Xp Bp Tp Cp Rp ++ (wH E Cp s3 n3 f3 ++ (wP E Bp g z3 l3 u3 q3 ++ (wP E Tp g2 z2 lo2 up2 pk2 ++ (wR E Rp ln cd))))) H → va_D (va_A (wO Xp Bp Tp Cp Rp ++ (wH E Cp sz nw pf ++ (wP E Bp g z lo up pk ++ (wP E Tp g2 z2 lo2 up2 pk2 ++ (wR E Rp ln cd))))) s.heap.size) (wO Xp Bp Tp Cp Rp ++ (wH E Cp s3 n3 f3 ++ (wP E Bp g z3 l3 u3 q3 ++ (wP E Tp g2 z2 lo2 up2 pk2 ++ (wR E Rp ln cd))))) → va_S (va_A (wO Xp Bp Tp Cp Rp ++ (wH E Cp sz nw pf ++ (wP E Bp g z lo up pk ++ (wP E Tp g2 z2 lo2 up2 pk2 ++ (wR E Rp ln cd))))) s.heap.size) s.heap H locs → lv_has ls 4 [(2, .int (nI i)), (0, .ref Xp), (1, .int (nI V))] → W p l e (gR wsX4_passCycles 4 91) s m ([.ref Xp, .int (nI V)] : List Value).toArray below meth c H locs 0 0 (gMQ below E s (wO Xp Bp Tp Cp Rp ++ (wH E Cp sz nw pf ++ (wP E Bp g z lo up pk ++ (wP E Tp g2 z2 lo2 up2 pk2 ++ (wR E Rp ln cd))))) (wO Xp Bp Tp Cp Rp ++ (wH E Cp ((pcsL V ((z, lo, up, pk), (sz, nw, pf))).2.1) ((pcsL V ((z, lo, up, pk), (sz, nw, pf))).2.2.1) ((pcsL V ((z, lo, up, pk), (sz, nw, pf))).2.2.2) ++ (wP E Bp g ((pcsL V ((z, lo, up, pk), (sz, nw, pf))).1.1) ((pcsL V ((z, lo, up, pk), (sz, nw, pf))).1.2.1) ((pcsL V ((z, lo, up, pk), (sz, nw, pf))).1.2.2.1) ((pcsL V ((z, lo, up, pk), (sz, nw, pf))).1.2.2.2) ++ (wP E Tp g2 z2 lo2 up2 pk2 ++ (wR E Rp ln cd))))) (none) [.ref Xp, .int (nI V)]) (F0 m 2 ls []) := by
    intro n
    induction n with
    | zero =>
      intro i z3 l3 u3 q3 s3 n3 f3 H locs ls hin h3 hZ3 hg3 hr3 hfn hP hD hS hl
      have hf : ((z3, l3, u3, q3), (s3, n3, f3)) = pcsL V ((z, lo, up, pk), (sz, nw, pf)) := hfn
      refine lv_iload_n hx hb dX4_passCycles_2 rfl (lv_at hl 0 rfl) ?_
      refine lv_iload_n hx hb dX4_passCycles_3 rfl (lv_at hl 2 rfl) ?_
      refine lv_icmp_ge (tgt := 48) hx hb dX4_passCycles_4 (by decide) (fun c_4 => ?_) (fun c_4 => absurd (nI_le (by omega) (by omega)) c_4)
      exact gretv hx hb hr hlocks hP hD hS (by rw [← hf]) dX4_passCycles_48
    | succ n ih =>
      intro i z3 l3 u3 q3 s3 n3 f3 H locs ls hin h3 hZ3 hg3 hr3 hfn hP hD hS hl
      refine lv_iload_n hx hb dX4_passCycles_2 rfl (lv_at hl 0 rfl) ?_
      refine lv_iload_n hx hb dX4_passCycles_3 rfl (lv_at hl 2 rfl) ?_
      refine lv_icmp_ge (tgt := 48) hx hb dX4_passCycles_4 (by decide) (fun c_4 => absurd c_4 (nI_ge (by omega) (by omega))) (fun c_4 => ?_)
      refine lv_aload_n hx hb dX4_passCycles_7 rfl (lv_at hl 1 rfl) ?_
      refine va_get (D := E.1) (ci := 4) (v := .ref (Bp 0)) (C := RX4) (T := TX4) (N := 4) hx hb hts hiX4 hown hK hP 0 rfl rfl 0 (by decide) hf14 (fun _ h9 => h9) rfl dX4_passCycles_8 ?_
      refine gvMi (wO Xp Bp Tp Cp Rp ++ (wH E Cp s3 n3 f3)) (wP E Tp g2 z2 lo2 up2 pk2 ++ (wR E Rp ln cd)) (As := []) (rest := []) ⟨hx, hb, hml, hown, hts⟩ (c_X2_limitEvents l E Bp g z3 l3 u3 q3 h3) (cwV 0 hts gX4_passCycles_X2_limitEvents rfl rfl rfl (by decide +kernel) ⟨Nat.le_of_ble_eq_true rfl, Nat.le_of_ble_eq_true rfl⟩) (va_recv hK hP (ci := 2) (q0 := 3) rfl rfl) hP hK hD hN hS hA rfl hl.1 rfl (Nat.le_of_ble_eq_true rfl) dX4_passCycles_11 ⟨Nat.le_refl _, Nat.le_refl _⟩ (fun H locs hP hD hS => ?_)
      have hP : va_P E.1 vwCl (wO Xp Bp Tp Cp Rp ++ (wH E Cp s3 n3 f3 ++ (wP E Bp g z3 l3 u3 q3 ++ (wP E Tp g2 z2 lo2 up2 pk2 ++ (wR E Rp ln cd))))) H := hP
      have hD : va_D _ (wO Xp Bp Tp Cp Rp ++ (wH E Cp s3 n3 f3 ++ (wP E Bp g z3 l3 u3 q3 ++ (wP E Tp g2 z2 lo2 up2 pk2 ++ (wR E Rp ln cd))))) := hD
      refine lv_istore_n (lv' := [(3, .int (limS z3)), (2, .int (nI i)), (0, .ref Xp), (1, .int (nI V))]) hx hb dX4_passCycles_14 rfl hl (by decide) rfl (fun ls hl => ?_)
      refine lv_aload_n hx hb dX4_passCycles_15 rfl (lv_at hl 2 rfl) ?_
      refine va_get (D := E.1) (ci := 4) (v := .ref (Bp 0)) (C := RX4) (T := TX4) (N := 4) hx hb hts hiX4 hown hK hP 0 rfl rfl 0 (by decide) hf14 (fun _ h9 => h9) rfl dX4_passCycles_16 ?_
      refine gvMv (wO Xp Bp Tp Cp Rp ++ (wH E Cp s3 n3 f3)) (wP E Tp g2 z2 lo2 up2 pk2 ++ (wR E Rp ln cd)) (As := []) (rest := []) ⟨hx, hb, hml, hown, hts⟩ (c_X2_passCycle l E Bp g z3 l3 u3 q3 hg3 h3 hZ3) (cwV 0 hts gX4_passCycles_X2_passCycle rfl rfl rfl (by decide +kernel) ⟨Nat.le_of_ble_eq_true rfl, Nat.le_of_ble_eq_true rfl⟩) (va_recv hK hP (ci := 2) (q0 := 3) rfl rfl) hP hK hD hN hS hA rfl hl.1 rfl (Nat.le_of_ble_eq_true rfl) dX4_passCycles_19 ⟨Nat.le_refl _, Nat.le_refl _⟩ (fun H locs hP hD hS => ?_)
      have hP : va_P E.1 vwCl (wO Xp Bp Tp Cp Rp ++ (wH E Cp s3 n3 f3 ++ (wP E Bp g (pcF z3 l3 u3 q3) ((pcU z3 l3 u3 q3).2.1) ((pcU z3 l3 u3 q3).2.2.1) ((pcU z3 l3 u3 q3).2.2.2.1) ++ (wP E Tp g2 z2 lo2 up2 pk2 ++ (wR E Rp ln cd))))) H := hP
      have hD : va_D _ (wO Xp Bp Tp Cp Rp ++ (wH E Cp s3 n3 f3 ++ (wP E Bp g (pcF z3 l3 u3 q3) ((pcU z3 l3 u3 q3).2.1) ((pcU z3 l3 u3 q3).2.2.1) ((pcU z3 l3 u3 q3).2.2.2.1) ++ (wP E Tp g2 z2 lo2 up2 pk2 ++ (wR E Rp ln cd))))) := hD
      refine lv_aload_n hx hb dX4_passCycles_22 rfl (lv_at hl 2 rfl) ?_
      refine va_get (D := E.1) (ci := 4) (v := .ref (Cp 0)) (C := RX4) (T := TX4) (N := 4) hx hb hts hiX4 hown hK hP 0 rfl rfl 2 (by decide) hf24 (fun _ h9 => h9) rfl dX4_passCycles_23 ?_
      refine lv_aload_n hx hb dX4_passCycles_26 rfl (lv_at hl 2 rfl) ?_
      refine va_get (D := E.1) (ci := 4) (v := .ref (Bp 0)) (C := RX4) (T := TX4) (N := 4) hx hb hts hiX4 hown hK hP 0 rfl rfl 0 (by decide) hf14 (fun _ h9 => h9) rfl dX4_passCycles_27 ?_
      refine lv_aload_n hx hb dX4_passCycles_30 rfl (lv_at hl 2 rfl) ?_
      refine va_get (D := E.1) (ci := 4) (v := .ref (Bp 0)) (C := RX4) (T := TX4) (N := 4) hx hb hts hiX4 hown hK hP 0 rfl rfl 0 (by decide) hf14 (fun _ h9 => h9) rfl dX4_passCycles_31 ?_
      refine gvMi (wO Xp Bp Tp Cp Rp ++ (wH E Cp s3 n3 f3)) (wP E Tp g2 z2 lo2 up2 pk2 ++ (wR E Rp ln cd)) (As := []) (rest := [.ref (Bp 0), .ref (Cp 0)]) ⟨hx, hb, hml, hown, hts⟩ (c_X2_limitEvents l E Bp g (pcF z3 l3 u3 q3) ((pcU z3 l3 u3 q3).2.1) ((pcU z3 l3 u3 q3).2.2.1) ((pcU z3 l3 u3 q3).2.2.2.1) (pcF_OK h3)) (cwV 0 hts gX4_passCycles_X2_limitEvents rfl rfl rfl (by decide +kernel) ⟨Nat.le_of_ble_eq_true rfl, Nat.le_of_ble_eq_true rfl⟩) (va_recv hK hP (ci := 2) (q0 := 3) rfl rfl) hP hK hD hN hS hA rfl hl.1 rfl (Nat.le_of_ble_eq_true rfl) dX4_passCycles_34 ⟨Nat.le_refl _, Nat.le_refl _⟩ (fun H locs hP hD hS => ?_)
      have hP : va_P E.1 vwCl (wO Xp Bp Tp Cp Rp ++ (wH E Cp s3 n3 f3 ++ (wP E Bp g (pcF z3 l3 u3 q3) ((pcU z3 l3 u3 q3).2.1) ((pcU z3 l3 u3 q3).2.2.1) ((pcU z3 l3 u3 q3).2.2.2.1) ++ (wP E Tp g2 z2 lo2 up2 pk2 ++ (wR E Rp ln cd))))) H := hP
      have hD : va_D _ (wO Xp Bp Tp Cp Rp ++ (wH E Cp s3 n3 f3 ++ (wP E Bp g (pcF z3 l3 u3 q3) ((pcU z3 l3 u3 q3).2.1) ((pcU z3 l3 u3 q3).2.2.1) ((pcU z3 l3 u3 q3).2.2.2.1) ++ (wP E Tp g2 z2 lo2 up2 pk2 ++ (wR E Rp ln cd))))) := hD
      refine lv_iload_n hx hb dX4_passCycles_37 rfl (lv_at hl 0 rfl) ?_
      refine lv_isub hx hb dX4_passCycles_38 ?_
      refine gvMv (wO Xp Bp Tp Cp Rp) (wP E Tp g2 z2 lo2 up2 pk2 ++ (wR E Rp ln cd)) (As := [.ref (Bp 0), .int ((limS (pcF z3 l3 u3 q3)) - (limS z3))]) (rest := []) ⟨hx, hb, hml, hown, hts⟩ (c_X0_keep l E Cp s3 n3 f3 Bp g (pcF z3 l3 u3 q3) ((pcU z3 l3 u3 q3).2.1) ((pcU z3 l3 u3 q3).2.2.1) ((pcU z3 l3 u3 q3).2.2.2.1) ((limS (pcF z3 l3 u3 q3)) - (limS z3)) n3.toNatClampNeg s3.toNatClampNeg hr3.1 hr3.2.1 hr3.2.2.1 hr3.2.2.2) (cwV 2 hts gX4_passCycles_X0_keep rfl rfl rfl (by decide +kernel) ⟨Nat.le_of_ble_eq_true rfl, Nat.le_of_ble_eq_true rfl⟩) (va_recv hK hP (ci := 0) (q0 := 1) rfl rfl) hP hK hD hN hS hA rfl hl.1 rfl (Nat.le_of_ble_eq_true rfl) dX4_passCycles_39 ⟨Nat.le_refl _, Nat.le_refl _⟩ (fun H locs hP hD hS => ?_)
      have hP : va_P E.1 vwCl (wO Xp Bp Tp Cp Rp ++ (wH E Cp (nI (min (s3.toNatClampNeg + 1) 16)) (nI ((n3.toNatClampNeg + 1) % 16)) (kpF n3.toNatClampNeg f3 (pcF z3 l3 u3 q3) (((pcU z3 l3 u3 q3).2.2.1) - ((pcU z3 l3 u3 q3).2.1)) ((limS (pcF z3 l3 u3 q3)) - (limS z3))) ++ (wP E Bp g (pcF z3 l3 u3 q3) ((pcU z3 l3 u3 q3).2.1) ((pcU z3 l3 u3 q3).2.2.1) ((pcU z3 l3 u3 q3).2.2.2.1) ++ (wP E Tp g2 z2 lo2 up2 pk2 ++ (wR E Rp ln cd))))) H := hP
      have hD : va_D _ (wO Xp Bp Tp Cp Rp ++ (wH E Cp (nI (min (s3.toNatClampNeg + 1) 16)) (nI ((n3.toNatClampNeg + 1) % 16)) (kpF n3.toNatClampNeg f3 (pcF z3 l3 u3 q3) (((pcU z3 l3 u3 q3).2.2.1) - ((pcU z3 l3 u3 q3).2.1)) ((limS (pcF z3 l3 u3 q3)) - (limS z3))) ++ (wP E Bp g (pcF z3 l3 u3 q3) ((pcU z3 l3 u3 q3).2.1) ((pcU z3 l3 u3 q3).2.2.1) ((pcU z3 l3 u3 q3).2.2.2.1) ++ (wP E Tp g2 z2 lo2 up2 pk2 ++ (wR E Rp ln cd))))) := hD
      refine lv_iinc (v := nI (i + 1)) (lv' := [(2, .int (nI (i + 1))), (3, .int (limS z3)), (0, .ref Xp), (1, .int (nI V))]) hx hb dX4_passCycles_42 hl (k := 1) rfl (nI_1 _) (by decide) rfl (fun ls hl => ?_)
      refine lv_goto (tgt := 2) hx hb dX4_passCycles_45 (by decide) ?_
      exact ih (i + 1) (pcF z3 l3 u3 q3) ((pcU z3 l3 u3 q3).2.1) ((pcU z3 l3 u3 q3).2.2.1) ((pcU z3 l3 u3 q3).2.2.2.1) (nI (min (s3.toNatClampNeg + 1) 16)) (nI ((n3.toNatClampNeg + 1) % 16)) (kpF n3.toNatClampNeg f3 (pcF z3 l3 u3 q3) (((pcU z3 l3 u3 q3).2.2.1) - ((pcU z3 l3 u3 q3).2.1)) ((limS (pcF z3 l3 u3 q3)) - (limS z3))) H locs ls (by omega) (pcF_OK h3) (pcF_Z h3 hZ3) (fun k hk => (hg3 k hk).trans (pcF_g hk).symm) (rOK_step) ((pcsL_s _ _ _ _ _ _ _ _).symm.trans hfn) hP hD hS (lv_sub hl [0, 2, 3] rfl)
  exact L_2 (V) (0) z lo up pk sz nw pf s.heap [] ls (by omega) (hz) (hZ) (hg) (hrk) rfl hP hD hS (lv_sub hl [0, 1, 2] rfl)

set_option maxHeartbeats 4000000 in
set_option maxRecDepth 100000 in
theorem c_X4_stop (l : Launch) (E : EE) (Xp : Nat) (Cp : Nat → Nat) (sz nw : Int32) (pf : Nat → Int32) (Bp : Nat → Nat) (g z : Nat → Int32) (lo up pk : Int32) (Tp : Nat → Nat) (g2 z2 : Nat → Int32) (lo2 up2 pk2 : Int32) (Rp : Nat → Nat) (ln : Int32) (cd : Nat → Int32) (hz : zOK z) (hZ : zZ z) : GM l yX4_stop wsX4_stop 1 22 E (wO Xp Bp Tp Cp Rp ++ (wH E Cp sz nw pf ++ (wP E Bp g z lo up pk ++ (wP E Tp g2 z2 lo2 up2 pk2 ++ (wR E Rp ln cd))))) [.ref Xp] (wO Xp Bp Tp Cp Rp ++ (wH E Cp sz nw pf ++ (wP E Bp g (stopTo 0 z) lo up pk ++ (wP E Tp g2 z2 lo2 up2 pk2 ++ (wR E Rp ln cd))))) (some (.int (z 20))) := by
  intro sz
  refine Met.ofW (cc := cX4_stop) (maxL := 2) (ret := (some .int)) (by decide) rfl ?_
  intro p e s m args below meth c s₁ B hml hv
  obtain ⟨rfl, rfl, hP, hK, hD0, hN⟩ := hv
  have hx := B.exec
  have hb := B.bytes
  have hr := B.returns
  have hts := atoms_spec (ws := wsX4_stop) B.pre
  have hown : s.vm.findClass RX4 = some m.cls := findClass_of_methodNamed B.named
  have hlocks := B.notSynchronized
  have hD := hD0.self (sz := s.heap.size)
  have hA : ∀ q : Nat, s.heap.size ≤ q → va_A (wO Xp Bp Tp Cp Rp ++ (wH E Cp sz nw pf ++ (wP E Bp g z lo up pk ++ (wP E Tp g2 z2 lo2 up2 pk2 ++ (wR E Rp ln cd))))) s.heap.size q := fun q h => Or.inr h
  have hS : va_S (va_A (wO Xp Bp Tp Cp Rp ++ (wH E Cp sz nw pf ++ (wP E Bp g z lo up pk ++ (wP E Tp g2 z2 lo2 up2 pk2 ++ (wR E Rp ln cd))))) s.heap.size) s.heap s.heap [] := va_S.rf
  have hl := lv_entry ([.ref Xp]) (n := 2) (Nat.le_of_ble_eq_true rfl)
  rw [lg_entry_eq]
  generalize (lg_sl ([.ref Xp]) ++ List.replicate (2 - (lg_sl ([.ref Xp])).length) Slot.unset).toArray = ls at hl ⊢
  have hl : lv_has ls 2 [(0, .ref Xp)] := hl
  have hf14 := hts (.fieldLink RX4 14 "PhaseConverter" "plant" "LPhaseConverter$Plant;") (List.mem_of_getElem? (i := 1) rfl)
  have hf86 := hts (.fieldLink RX4 86 "PhaseConverter$Plant" "mode" "I") (List.mem_of_getElem? (i := 2) rfl)
  have hiX2 : ∀ w ∈ u_ws RX2 TX2 17, w ∈ wsX4_stop := memIn [15, 16, 17, 18, 19, 20, 21, 22, 23, 24, 25, 26, 27, 28, 29, 30, 31] rfl
  have hiX4 : ∀ w ∈ u_ws RX4 TX4 4, w ∈ wsX4_stop := memIn [11, 12, 13, 14] rfl
  refine lv_aload_n hx hb dX4_stop_0 rfl (lv_at hl 0 rfl) ?_
  refine va_get (D := E.1) (ci := 4) (v := .ref (Bp 0)) (C := RX4) (T := TX4) (N := 4) hx hb hts hiX4 hown hK hP 0 rfl rfl 0 (by decide) hf14 (fun _ h9 => h9) rfl dX4_stop_1 ?_
  refine va_get (D := E.1) (ci := 2) (v := .int (z 20)) (C := RX2) (T := TX2) (N := 17) hx hb hts hiX2 hown hK hP 3 rfl rfl 4 (by decide) hf86 (fun _ h9 => h9) rfl dX4_stop_4 ?_
  refine lv_istore_n (lv' := [(1, .int (z 20)), (0, .ref Xp)]) hx hb dX4_stop_7 rfl hl (by decide) rfl (fun ls hl => ?_)
  refine lv_aload_n hx hb dX4_stop_8 rfl (lv_at hl 1 rfl) ?_
  refine va_get (D := E.1) (ci := 4) (v := .ref (Bp 0)) (C := RX4) (T := TX4) (N := 4) hx hb hts hiX4 hown hK hP 0 rfl rfl 0 (by decide) hf14 (fun _ h9 => h9) rfl dX4_stop_9 ?_
  refine lv_iconst (v := 0) hx hb dX4_stop_12 (by decide) ?_
  refine gvMv (wO Xp Bp Tp Cp Rp ++ (wH E Cp sz nw pf)) (wP E Tp g2 z2 lo2 up2 pk2 ++ (wR E Rp ln cd)) (As := [.int 0]) (rest := []) ⟨hx, hb, hml, hown, hts⟩ (c_X2_halt l E Bp g z lo up pk 0 hz hZ) (cwV 1 hts gX4_stop_X2_halt rfl rfl rfl (by decide +kernel) ⟨Nat.le_of_ble_eq_true rfl, Nat.le_of_ble_eq_true rfl⟩) (va_recv hK hP (ci := 2) (q0 := 3) rfl rfl) hP hK hD hN hS hA rfl hl.1 rfl (Nat.le_of_ble_eq_true rfl) dX4_stop_13 ⟨Nat.le_refl _, Nat.le_refl _⟩ (fun H locs hP hD hS => ?_)
  have hP : va_P E.1 vwCl (wO Xp Bp Tp Cp Rp ++ (wH E Cp sz nw pf ++ (wP E Bp g (stopTo 0 z) lo up pk ++ (wP E Tp g2 z2 lo2 up2 pk2 ++ (wR E Rp ln cd))))) H := hP
  have hD : va_D _ (wO Xp Bp Tp Cp Rp ++ (wH E Cp sz nw pf ++ (wP E Bp g (stopTo 0 z) lo up pk ++ (wP E Tp g2 z2 lo2 up2 pk2 ++ (wR E Rp ln cd))))) := hD
  refine lv_iload_n hx hb dX4_stop_16 rfl (lv_at hl 0 rfl) ?_
  exact greti hx hb hr hlocks hP hD hS (rfl) (rfl) dX4_stop_17

set_option maxHeartbeats 4000000 in
set_option maxRecDepth 100000 in
theorem c_X4_clearBuffer (l : Launch) (E : EE) (Xp : Nat) (Cp : Nat → Nat) (sz nw : Int32) (pf : Nat → Int32) (Bp : Nat → Nat) (g z : Nat → Int32) (lo up pk : Int32) (Tp : Nat → Nat) (g2 z2 : Nat → Int32) (lo2 up2 pk2 : Int32) (Rp : Nat → Nat) (ln : Int32) (cd : Nat → Int32) : GM l yX4_clearBuffer wsX4_clearBuffer 0 0 E (wO Xp Bp Tp Cp Rp ++ (wH E Cp sz nw pf ++ (wP E Bp g z lo up pk ++ (wP E Tp g2 z2 lo2 up2 pk2 ++ (wR E Rp ln cd))))) [.ref Xp] (wO Xp Bp Tp Cp Rp ++ (wH E Cp sz nw pf ++ (wP E Bp g z lo up pk ++ (wP E Tp g2 z2 lo2 up2 pk2 ++ (wR E Rp 0 cd))))) (some (.int ln)) := by
  intro sz
  refine Met.ofW (cc := cX4_clearBuffer) (maxL := 2) (ret := (some .int)) (by decide) rfl ?_
  intro p e s m args below meth c s₁ B hml hv
  obtain ⟨rfl, rfl, hP, hK, hD0, hN⟩ := hv
  have hx := B.exec
  have hb := B.bytes
  have hr := B.returns
  have hts := atoms_spec (ws := wsX4_clearBuffer) B.pre
  have hown : s.vm.findClass RX4 = some m.cls := findClass_of_methodNamed B.named
  have hlocks := B.notSynchronized
  have hD := hD0.self (sz := s.heap.size)
  have hA : ∀ q : Nat, s.heap.size ≤ q → va_A (wO Xp Bp Tp Cp Rp ++ (wH E Cp sz nw pf ++ (wP E Bp g z lo up pk ++ (wP E Tp g2 z2 lo2 up2 pk2 ++ (wR E Rp ln cd))))) s.heap.size q := fun q h => Or.inr h
  have hS : va_S (va_A (wO Xp Bp Tp Cp Rp ++ (wH E Cp sz nw pf ++ (wP E Bp g z lo up pk ++ (wP E Tp g2 z2 lo2 up2 pk2 ++ (wR E Rp ln cd))))) s.heap.size) s.heap s.heap [] := va_S.rf
  have hl := lv_entry ([.ref Xp]) (n := 2) (Nat.le_of_ble_eq_true rfl)
  rw [lg_entry_eq]
  generalize (lg_sl ([.ref Xp]) ++ List.replicate (2 - (lg_sl ([.ref Xp])).length) Slot.unset).toArray = ls at hl ⊢
  have hl : lv_has ls 2 [(0, .ref Xp)] := hl
  have hf112 := hts (.fieldLink RX4 112 "PhaseConverter$Program" "length" "I") (List.mem_of_getElem? (i := 2) rfl)
  have hf31 := hts (.fieldLink RX4 31 "PhaseConverter" "program" "LPhaseConverter$Program;") (List.mem_of_getElem? (i := 1) rfl)
  have hiX3 : ∀ w ∈ u_ws RX3 TX3 2, w ∈ wsX4_clearBuffer := memIn [7, 8] rfl
  have hiX4 : ∀ w ∈ u_ws RX4 TX4 4, w ∈ wsX4_clearBuffer := memIn [3, 4, 5, 6] rfl
  refine lv_aload_n hx hb dX4_clearBuffer_0 rfl (lv_at hl 0 rfl) ?_
  refine va_get (D := E.1) (ci := 4) (v := .ref (Rp 0)) (C := RX4) (T := TX4) (N := 4) hx hb hts hiX4 hown hK hP 0 rfl rfl 3 (by decide) hf31 (fun _ h9 => h9) rfl dX4_clearBuffer_1 ?_
  refine va_get (D := E.1) (ci := 3) (v := .int ln) (C := RX3) (T := TX3) (N := 2) hx hb hts hiX3 hown hK hP 17 rfl rfl 1 (by decide) hf112 (fun _ h9 => h9) rfl dX4_clearBuffer_4 ?_
  refine lv_istore_n (lv' := [(1, .int ln), (0, .ref Xp)]) hx hb dX4_clearBuffer_7 rfl hl (by decide) rfl (fun ls hl => ?_)
  refine lv_aload_n hx hb dX4_clearBuffer_8 rfl (lv_at hl 1 rfl) ?_
  refine va_get (D := E.1) (ci := 4) (v := .ref (Rp 0)) (C := RX4) (T := TX4) (N := 4) hx hb hts hiX4 hown hK hP 0 rfl rfl 3 (by decide) hf31 (fun _ h9 => h9) rfl dX4_clearBuffer_9 ?_
  refine lv_iconst (v := 0) hx hb dX4_clearBuffer_12 (by decide) ?_
  refine va_put (D := E.1) (ci := 3) (v := .int 0) (ty := .int) (C := RX3) (T := TX3) (N := 2) hx hb hts hiX3 tyX3 tyX3_ok nmX3 hown hK hP hD hS 17 rfl rfl 1 (by decide) hf112 (fun _ h9 => h9) rfl (by decide +kernel) rfl rfl (Nat.le_of_ble_eq_true rfl) dX4_clearBuffer_13 (fun H locs hP hD hS => ?_)
  have hP : va_P E.1 vwCl (wO Xp Bp Tp Cp Rp ++ (wH E Cp sz nw pf ++ (wP E Bp g z lo up pk ++ (wP E Tp g2 z2 lo2 up2 pk2 ++ (wR E Rp 0 cd))))) H := hP
  have hD : va_D _ (wO Xp Bp Tp Cp Rp ++ (wH E Cp sz nw pf ++ (wP E Bp g z lo up pk ++ (wP E Tp g2 z2 lo2 up2 pk2 ++ (wR E Rp 0 cd))))) := hD
  refine lv_iload_n hx hb dX4_clearBuffer_16 rfl (lv_at hl 0 rfl) ?_
  exact greti hx hb hr hlocks hP hD hS (rfl) (rfl) dX4_clearBuffer_17

set_option maxHeartbeats 4000000 in
set_option maxRecDepth 100000 in
theorem c_X4_firstError (l : Launch) (E : EE) (Xp : Nat) (Cp : Nat → Nat) (sz nw : Int32) (pf : Nat → Int32) (Bp : Nat → Nat) (g z : Nat → Int32) (lo up pk : Int32) (Tp : Nat → Nat) (g2 z2 : Nat → Int32) (lo2 up2 pk2 : Int32) (Rp : Nat → Nat) (ln : Int32) (cd : Nat → Int32) (L : Nat) (hL : ln = nI L) (hL5 : L ≤ 50) : GM l yX4_firstError wsX4_firstError 3 63 E (wO Xp Bp Tp Cp Rp ++ (wH E Cp sz nw pf ++ (wP E Bp g z lo up pk ++ (wP E Tp g2 z2 lo2 up2 pk2 ++ (wR E Rp ln cd))))) [.ref Xp] (wO Xp Bp Tp Cp Rp ++ (wH E Cp sz nw pf ++ (wP E Bp g z lo up pk ++ (wP E Tp g2 z2 lo2 up2 pk2 ++ (wR E Rp ln cd))))) (some (.int (eiL cd L 0 0))) := by
  intro sz
  refine Met.ofW (cc := cX4_firstError) (maxL := 1) (ret := (some .int)) (by decide) rfl ?_
  intro p e s m args below meth c s₁ B hml hv
  obtain ⟨rfl, rfl, hP, hK, hD0, hN⟩ := hv
  have hx := B.exec
  have hb := B.bytes
  have hr := B.returns
  have hts := atoms_spec (ws := wsX4_firstError) B.pre
  have hown : s.vm.findClass RX4 = some m.cls := findClass_of_methodNamed B.named
  have hlocks := B.notSynchronized
  have hD := hD0.self (sz := s.heap.size)
  have hA : ∀ q : Nat, s.heap.size ≤ q → va_A (wO Xp Bp Tp Cp Rp ++ (wH E Cp sz nw pf ++ (wP E Bp g z lo up pk ++ (wP E Tp g2 z2 lo2 up2 pk2 ++ (wR E Rp ln cd))))) s.heap.size q := fun q h => Or.inr h
  have hS : va_S (va_A (wO Xp Bp Tp Cp Rp ++ (wH E Cp sz nw pf ++ (wP E Bp g z lo up pk ++ (wP E Tp g2 z2 lo2 up2 pk2 ++ (wR E Rp ln cd))))) s.heap.size) s.heap s.heap [] := va_S.rf
  have hl := lv_entry ([.ref Xp]) (n := 1) (Nat.le_of_ble_eq_true rfl)
  rw [lg_entry_eq]
  generalize (lg_sl ([.ref Xp]) ++ List.replicate (1 - (lg_sl ([.ref Xp])).length) Slot.unset).toArray = ls at hl ⊢
  have hl : lv_has ls 1 [(0, .ref Xp)] := hl
  have hf31 := hts (.fieldLink RX4 31 "PhaseConverter" "program" "LPhaseConverter$Program;") (List.mem_of_getElem? (i := 1) rfl)
  have hiX4 : ∀ w ∈ u_ws RX4 TX4 4, w ∈ wsX4_firstError := memIn [22, 23, 24, 25] rfl
  refine lv_aload_n hx hb dX4_firstError_0 rfl (lv_at hl 0 rfl) ?_
  refine va_get (D := E.1) (ci := 4) (v := .ref (Rp 0)) (C := RX4) (T := TX4) (N := 4) hx hb hts hiX4 hown hK hP 0 rfl rfl 3 (by decide) hf31 (fun _ h9 => h9) rfl dX4_firstError_1 ?_
  refine gvMi (wO Xp Bp Tp Cp Rp ++ (wH E Cp sz nw pf ++ (wP E Bp g z lo up pk ++ (wP E Tp g2 z2 lo2 up2 pk2)))) ([] : va_W) (As := []) (rest := []) ⟨hx, hb, hml, hown, hts⟩ (c_X3_errorIndex l E Rp ln cd L hL hL5) (cwV 0 hts gX4_firstError_X3_errorIndex rfl rfl rfl (by decide +kernel) ⟨Nat.le_of_ble_eq_true rfl, Nat.le_of_ble_eq_true rfl⟩) (va_recv hK hP (ci := 3) (q0 := 17) rfl rfl) hP hK hD hN hS hA rfl hl.1 rfl (Nat.le_of_ble_eq_true rfl) dX4_firstError_4 ⟨Nat.le_refl _, Nat.le_refl _⟩ (fun H locs hP hD hS => ?_)
  have hP : va_P E.1 vwCl (wO Xp Bp Tp Cp Rp ++ (wH E Cp sz nw pf ++ (wP E Bp g z lo up pk ++ (wP E Tp g2 z2 lo2 up2 pk2 ++ (wR E Rp ln cd))))) H := hP
  have hD : va_D _ (wO Xp Bp Tp Cp Rp ++ (wH E Cp sz nw pf ++ (wP E Bp g z lo up pk ++ (wP E Tp g2 z2 lo2 up2 pk2 ++ (wR E Rp ln cd))))) := hD
  exact greti hx hb hr hlocks hP hD hS (rfl) (rfl) dX4_firstError_7

set_option maxHeartbeats 4000000 in
set_option maxRecDepth 100000 in
theorem c_X4_unbalance (l : Launch) (E : EE) (Xp : Nat) (Cp : Nat → Nat) (sz nw : Int32) (pf : Nat → Int32) (Bp : Nat → Nat) (g z : Nat → Int32) (lo up pk : Int32) (Tp : Nat → Nat) (g2 z2 : Nat → Int32) (lo2 up2 pk2 : Int32) (Rp : Nat → Nat) (ln : Int32) (cd : Nat → Int32) (hz : zOK z) : GM l yX4_unbalance wsX4_unbalance 2 44 E (wO Xp Bp Tp Cp Rp ++ (wH E Cp sz nw pf ++ (wP E Bp g z lo up pk ++ (wP E Tp g2 z2 lo2 up2 pk2 ++ (wR E Rp ln cd))))) [.ref Xp] (wO Xp Bp Tp Cp Rp ++ (wH E Cp sz nw pf ++ (wP E Bp g z lo up pk ++ (wP E Tp g2 z2 lo2 up2 pk2 ++ (wR E Rp ln cd))))) (some (.int (unlike z))) := by
  intro sz
  refine Met.ofW (cc := cX4_unbalance) (maxL := 1) (ret := (some .int)) (by decide) rfl ?_
  intro p e s m args below meth c s₁ B hml hv
  obtain ⟨rfl, rfl, hP, hK, hD0, hN⟩ := hv
  have hx := B.exec
  have hb := B.bytes
  have hr := B.returns
  have hts := atoms_spec (ws := wsX4_unbalance) B.pre
  have hown : s.vm.findClass RX4 = some m.cls := findClass_of_methodNamed B.named
  have hlocks := B.notSynchronized
  have hD := hD0.self (sz := s.heap.size)
  have hA : ∀ q : Nat, s.heap.size ≤ q → va_A (wO Xp Bp Tp Cp Rp ++ (wH E Cp sz nw pf ++ (wP E Bp g z lo up pk ++ (wP E Tp g2 z2 lo2 up2 pk2 ++ (wR E Rp ln cd))))) s.heap.size q := fun q h => Or.inr h
  have hS : va_S (va_A (wO Xp Bp Tp Cp Rp ++ (wH E Cp sz nw pf ++ (wP E Bp g z lo up pk ++ (wP E Tp g2 z2 lo2 up2 pk2 ++ (wR E Rp ln cd))))) s.heap.size) s.heap s.heap [] := va_S.rf
  have hl := lv_entry ([.ref Xp]) (n := 1) (Nat.le_of_ble_eq_true rfl)
  rw [lg_entry_eq]
  generalize (lg_sl ([.ref Xp]) ++ List.replicate (1 - (lg_sl ([.ref Xp])).length) Slot.unset).toArray = ls at hl ⊢
  have hl : lv_has ls 1 [(0, .ref Xp)] := hl
  have hf14 := hts (.fieldLink RX4 14 "PhaseConverter" "plant" "LPhaseConverter$Plant;") (List.mem_of_getElem? (i := 1) rfl)
  have hiX4 : ∀ w ∈ u_ws RX4 TX4 4, w ∈ wsX4_unbalance := memIn [17, 18, 19, 20] rfl
  refine lv_aload_n hx hb dX4_unbalance_0 rfl (lv_at hl 0 rfl) ?_
  refine va_get (D := E.1) (ci := 4) (v := .ref (Bp 0)) (C := RX4) (T := TX4) (N := 4) hx hb hts hiX4 hown hK hP 0 rfl rfl 0 (by decide) hf14 (fun _ h9 => h9) rfl dX4_unbalance_1 ?_
  refine gvMi (wO Xp Bp Tp Cp Rp ++ (wH E Cp sz nw pf)) (wP E Tp g2 z2 lo2 up2 pk2 ++ (wR E Rp ln cd)) (As := []) (rest := []) ⟨hx, hb, hml, hown, hts⟩ (c_X2_currentSpread l E Bp g z lo up pk hz) (cwV 0 hts gX4_unbalance_X2_currentSpread rfl rfl rfl (by decide +kernel) ⟨Nat.le_of_ble_eq_true rfl, Nat.le_of_ble_eq_true rfl⟩) (va_recv hK hP (ci := 2) (q0 := 3) rfl rfl) hP hK hD hN hS hA rfl hl.1 rfl (Nat.le_of_ble_eq_true rfl) dX4_unbalance_4 ⟨Nat.le_refl _, Nat.le_refl _⟩ (fun H locs hP hD hS => ?_)
  have hP : va_P E.1 vwCl (wO Xp Bp Tp Cp Rp ++ (wH E Cp sz nw pf ++ (wP E Bp g z lo up pk ++ (wP E Tp g2 z2 lo2 up2 pk2 ++ (wR E Rp ln cd))))) H := hP
  have hD : va_D _ (wO Xp Bp Tp Cp Rp ++ (wH E Cp sz nw pf ++ (wP E Bp g z lo up pk ++ (wP E Tp g2 z2 lo2 up2 pk2 ++ (wR E Rp ln cd))))) := hD
  exact greti hx hb hr hlocks hP hD hS (rfl) (rfl) dX4_unbalance_7
