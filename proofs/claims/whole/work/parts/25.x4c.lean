set_option maxHeartbeats 4000000 in
set_option maxRecDepth 100000 in
theorem c_X4_greatestLoad (l : Launch) (E : EE) (Xp : Nat) (Cp : Nat → Nat) (sz nw : Int32) (pf : Nat → Int32) (Bp : Nat → Nat) (g z : Nat → Int32) (lo up pk : Int32) (Tp : Nat → Nat) (g2 z2 : Nat → Int32) (lo2 up2 pk2 : Int32) (Rp : Nat → Nat) (ln : Int32) (cd : Nat → Int32) (v1 : Int32) (hv0 : ¬ v1 < 0) (hv4 : ¬ 40000 < v1) (hg : ∀ k, k < 15 → g k = z k) (hz : zOK z) (hZ : zZ z) : GM l yX4_greatestLoad wsX4_greatestLoad 5 114 E (wO Xp Bp Tp Cp Rp ++ (wH E Cp sz nw pf ++ (wP E Bp g z lo up pk ++ (wP E Tp g2 z2 lo2 up2 pk2 ++ (wR E Rp ln cd))))) [.ref Xp, .int v1] (wO Xp Bp Tp Cp Rp ++ (wH E Cp sz nw pf ++ (wP E Bp g z lo up pk ++ (wP E Tp ((glC v1 (z, lo, up, pk) g 41 (g2, z2, lo2, up2, pk2)).2.1) ((glC v1 (z, lo, up, pk) g 41 (g2, z2, lo2, up2, pk2)).2.2.1) ((glC v1 (z, lo, up, pk) g 41 (g2, z2, lo2, up2, pk2)).2.2.2.1) ((glC v1 (z, lo, up, pk) g 41 (g2, z2, lo2, up2, pk2)).2.2.2.2.1) ((glC v1 (z, lo, up, pk) g 41 (g2, z2, lo2, up2, pk2)).2.2.2.2.2) ++ (wR E Rp ln cd))))) (some (.int (glC v1 (z, lo, up, pk) g 41 (g2, z2, lo2, up2, pk2)).1)) := by
  intro sz
  refine Met.ofW (cc := cX4_greatestLoad) (maxL := 3) (ret := (some .int)) (by decide) rfl ?_
  intro p e s m args below meth c s₁ B hml hv
  obtain ⟨rfl, rfl, hP, hK, hD0, hN⟩ := hv
  have hx := B.exec
  have hb := B.bytes
  have hr := B.returns
  have hts := atoms_spec (ws := wsX4_greatestLoad) B.pre
  have hown : s.vm.findClass RX4 = some m.cls := findClass_of_methodNamed B.named
  have hlocks := B.notSynchronized
  have hD := hD0.self (sz := s.heap.size)
  have hA : ∀ q : Nat, s.heap.size ≤ q → va_A (wO Xp Bp Tp Cp Rp ++ (wH E Cp sz nw pf ++ (wP E Bp g z lo up pk ++ (wP E Tp g2 z2 lo2 up2 pk2 ++ (wR E Rp ln cd))))) s.heap.size q := fun q h => Or.inr h
  have hS : va_S (va_A (wO Xp Bp Tp Cp Rp ++ (wH E Cp sz nw pf ++ (wP E Bp g z lo up pk ++ (wP E Tp g2 z2 lo2 up2 pk2 ++ (wR E Rp ln cd))))) s.heap.size) s.heap s.heap [] := va_S.rf
  have hl := lv_entry ([.ref Xp, .int v1]) (n := 3) (Nat.le_of_ble_eq_true rfl)
  rw [lg_entry_eq]
  generalize (lg_sl ([.ref Xp, .int v1]) ++ List.replicate (3 - (lg_sl ([.ref Xp, .int v1])).length) Slot.unset).toArray = ls at hl ⊢
  have hl : lv_has ls 3 [(0, .ref Xp), (1, .int v1)] := hl
  refine lv_iload_n hx hb dX4_greatestLoad_0 rfl (lv_at hl 1 rfl) ?_
  refine lv_if_lt (tgt := 10) hx hb dX4_greatestLoad_1 (by decide) (fun c_1 => absurd c_1 hv0) (fun c_1 => ?_)
  refine lv_iload_n hx hb dX4_greatestLoad_4 rfl (lv_at hl 1 rfl) ?_
  refine lv_ldc (own := RX4) (v := 40000) hx hb hown (hts (.constant RX4 175 (40000)) (List.mem_of_getElem? (i := 3) rfl)) dX4_greatestLoad_5 ?_
  refine lv_icmp_le (tgt := 20) hx hb dX4_greatestLoad_7 (by decide) (fun c_7 => ?_) (fun c_7 => absurd (Int32.not_lt.mp hv4) c_7)
  refine lv_sipush (v := 20000) hx hb dX4_greatestLoad_20 (by decide) ?_
  refine lv_istore_n (lv' := [(2, .int 20000), (0, .ref Xp), (1, .int v1)]) hx hb dX4_greatestLoad_23 rfl hl (by decide) rfl (fun ls hl => ?_)
  have L_24 : ∀ (n : Nat) (y2 : Int32) (g3 : Nat → Int32) (z3 : Nat → Int32) (l3 : Int32) (u3 : Int32) (q3 : Int32) (H : Heap) (locs : List Loc) (ls : Array Slot), (n ≤ 41) → (y2 = nI (500 * n) - 500) → (glC v1 (z, lo, up, pk) g n (g3, z3, l3, u3, q3) = glC v1 (z, lo, up, pk) g 41 (g2, z2, lo2, up2, pk2)) → va_P E.1 vwCl (wO Xp Bp Tp Cp Rp ++ (wH E Cp sz nw pf ++ (wP E Bp g z lo up pk ++ (wP E Tp g3 z3 l3 u3 q3 ++ (wR E Rp ln cd))))) H → va_D (va_A (wO Xp Bp Tp Cp Rp ++ (wH E Cp sz nw pf ++ (wP E Bp g z lo up pk ++ (wP E Tp g2 z2 lo2 up2 pk2 ++ (wR E Rp ln cd))))) s.heap.size) (wO Xp Bp Tp Cp Rp ++ (wH E Cp sz nw pf ++ (wP E Bp g z lo up pk ++ (wP E Tp g3 z3 l3 u3 q3 ++ (wR E Rp ln cd))))) → va_S (va_A (wO Xp Bp Tp Cp Rp ++ (wH E Cp sz nw pf ++ (wP E Bp g z lo up pk ++ (wP E Tp g2 z2 lo2 up2 pk2 ++ (wR E Rp ln cd))))) s.heap.size) s.heap H locs → lv_has ls 3 [(2, .int y2), (0, .ref Xp), (1, .int v1)] → W p l e (gR wsX4_greatestLoad 5 114) s m ([.ref Xp, .int v1] : List Value).toArray below meth c H locs 0 0 (gMQ below E s (wO Xp Bp Tp Cp Rp ++ (wH E Cp sz nw pf ++ (wP E Bp g z lo up pk ++ (wP E Tp g2 z2 lo2 up2 pk2 ++ (wR E Rp ln cd))))) (wO Xp Bp Tp Cp Rp ++ (wH E Cp sz nw pf ++ (wP E Bp g z lo up pk ++ (wP E Tp ((glC v1 (z, lo, up, pk) g 41 (g2, z2, lo2, up2, pk2)).2.1) ((glC v1 (z, lo, up, pk) g 41 (g2, z2, lo2, up2, pk2)).2.2.1) ((glC v1 (z, lo, up, pk) g 41 (g2, z2, lo2, up2, pk2)).2.2.2.1) ((glC v1 (z, lo, up, pk) g 41 (g2, z2, lo2, up2, pk2)).2.2.2.2.1) ((glC v1 (z, lo, up, pk) g 41 (g2, z2, lo2, up2, pk2)).2.2.2.2.2) ++ (wR E Rp ln cd))))) (some (.int (glC v1 (z, lo, up, pk) g 41 (g2, z2, lo2, up2, pk2)).1)) [.ref Xp, .int v1]) (F0 m 24 ls []) := by
    intro n
    induction n with
    | zero =>
      intro y2 g3 z3 l3 u3 q3 H locs ls hn hy hfn hP hD hS hl
      have hl : lv_has ls 3 [(2, .int y2), (0, .ref Xp), (1, .int v1)] := hl
      have hf : ((-1 : Int32), g3, z3, l3, u3, q3) = glC v1 (z, lo, up, pk) g 41 (g2, z2, lo2, up2, pk2) := hfn
      refine lv_iload_n hx hb dX4_greatestLoad_24 rfl (lv_at hl 0 rfl) ?_
      refine lv_if_lt (tgt := 48) hx hb dX4_greatestLoad_25 (by decide) (fun c_25 => ?_) (fun c_25 => absurd (by rw [hy]; decide) c_25)
      refine lv_iconst (v := (-1)) hx hb dX4_greatestLoad_48 (by decide) ?_
      exact greti hx hb hr hlocks hP hD hS (congrArg Prod.fst hf) (by rw [← hf]) dX4_greatestLoad_49
    | succ n ih =>
      intro y2 g3 z3 l3 u3 q3 H locs ls hn hy hfn hP hD hS hl
      have hl : lv_has ls 3 [(2, .int y2), (0, .ref Xp), (1, .int v1)] := hl
      have hy1 : y2 = nI (500 * n) := gl_y (by omega) hy
      subst hy1
      refine lv_iload_n hx hb dX4_greatestLoad_24 rfl (lv_at hl 0 rfl) ?_
      refine lv_if_lt (tgt := 48) hx hb dX4_greatestLoad_25 (by decide) (fun c_25 => absurd c_25 (nI_pos (by omega))) (fun c_25 => ?_)
      refine lv_aload_n hx hb dX4_greatestLoad_28 rfl (lv_at hl 1 rfl) ?_
      refine lv_iload_n hx hb dX4_greatestLoad_29 rfl (lv_at hl 0 rfl) ?_
      refine lv_iload_n hx hb dX4_greatestLoad_30 rfl (lv_at hl 2 rfl) ?_
      refine gv0i (As := [.int (nI (500 * n)), .int v1]) (rest := []) ⟨hx, hb, hml, hown, hts⟩ (c_X4_holdsLevel l E Xp Cp sz nw pf Bp g z lo up pk Tp g3 z3 l3 u3 q3 Rp ln cd (nI (500 * n)) v1 hg hz hZ) (cwV 2 hts gX4_greatestLoad_X4_holdsLevel rfl rfl rfl (by decide +kernel) ⟨Nat.le_of_ble_eq_true rfl, Nat.le_of_ble_eq_true rfl⟩) (va_recv hK hP (ci := 4) (q0 := 0) rfl rfl) hP hK hD hN hS hA rfl hl.1 rfl (Nat.le_of_ble_eq_true rfl) dX4_greatestLoad_31 ⟨Nat.le_refl _, Nat.le_refl _⟩ (fun H locs hP hD hS => ?_)
      have hP : va_P E.1 vwCl (wO Xp Bp Tp Cp Rp ++ (wH E Cp sz nw pf ++ (wP E Bp g z lo up pk ++ (wP E Tp (upd (va_cpy g g3 0 0 15) 2 (nI (500 * n))) (((hoC (nI (500 * n)) v1 (z, lo, up, pk)).2).1) (((hoC (nI (500 * n)) v1 (z, lo, up, pk)).2).2.1) (((hoC (nI (500 * n)) v1 (z, lo, up, pk)).2).2.2.1) (((hoC (nI (500 * n)) v1 (z, lo, up, pk)).2).2.2.2) ++ (wR E Rp ln cd))))) H := hP
      have hD : va_D _ (wO Xp Bp Tp Cp Rp ++ (wH E Cp sz nw pf ++ (wP E Bp g z lo up pk ++ (wP E Tp (upd (va_cpy g g3 0 0 15) 2 (nI (500 * n))) (((hoC (nI (500 * n)) v1 (z, lo, up, pk)).2).1) (((hoC (nI (500 * n)) v1 (z, lo, up, pk)).2).2.1) (((hoC (nI (500 * n)) v1 (z, lo, up, pk)).2).2.2.1) (((hoC (nI (500 * n)) v1 (z, lo, up, pk)).2).2.2.2) ++ (wR E Rp ln cd))))) := hD
      refine lv_if_eq (tgt := 39) hx hb dX4_greatestLoad_34 (by decide) (fun c_34 => ?_) (fun c_34 => ?_)
      · refine lv_iincW (v := (nI (500 * n)) + (-500)) (lv' := [(2, .int ((nI (500 * n)) + (-500))), (0, .ref Xp), (1, .int v1)]) hx hb dX4_greatestLoad_39 hl (k := 0) rfl rfl (by decide) rfl (fun ls hl => ?_)
        refine lv_goto (tgt := 24) hx hb dX4_greatestLoad_45 (by decide) ?_
        exact ih ((nI (500 * n)) + (-500)) (upd (va_cpy g g3 0 0 15) 2 (nI (500 * n))) (((hoC (nI (500 * n)) v1 (z, lo, up, pk)).2).1) (((hoC (nI (500 * n)) v1 (z, lo, up, pk)).2).2.1) (((hoC (nI (500 * n)) v1 (z, lo, up, pk)).2).2.2.1) (((hoC (nI (500 * n)) v1 (z, lo, up, pk)).2).2.2.2) H locs ls (by omega) (gl_s rfl) (by rw [← hfn, glC_s, if_pos c_34]) hP hD hS (lv_sub hl [0, 1, 2] rfl)
      · have hf : (nI (500 * n), upd (va_cpy g g3 0 0 15) 2 (nI (500 * n)), (hoC (nI (500 * n)) v1 (z, lo, up, pk)).2) = glC v1 (z, lo, up, pk) g 41 (g2, z2, lo2, up2, pk2) := by rw [← hfn, glC_s, if_neg c_34]
        refine lv_iload_n hx hb dX4_greatestLoad_37 rfl (lv_at hl 0 rfl) ?_
        exact greti hx hb hr hlocks hP hD hS (congrArg Prod.fst hf) (by rw [← hf]) dX4_greatestLoad_38
  exact L_24 41 20000 g2 z2 lo2 up2 pk2 s.heap [] ls (Nat.le_refl _) (by decide) rfl hP hD hS (lv_sub hl [0, 1, 2] rfl)

set_option maxHeartbeats 4000000 in
set_option maxRecDepth 100000 in
theorem c_X4_ifLoaded (l : Launch) (E : EE) (Sp : Nat → Nat) (Xp : Nat) (Cp : Nat → Nat) (sz nw : Int32) (pf : Nat → Int32) (Bp : Nat → Nat) (g z : Nat → Int32) (lo up pk : Int32) (Tp : Nat → Nat) (g2 z2 : Nat → Int32) (lo2 up2 pk2 : Int32) (Rp : Nat → Nat) (ln : Int32) (cd : Nat → Int32) (v1 : Int32) (V k0 : Nat) (hfit : ¬ fitI 2 v1 = 0) (hV1 : 1 ≤ V) (hV : V ≤ 100) (hk : k0 < 6) (hg : ∀ k, k < 15 → g k = z k) (hz : zOK z) (hZ : zZ z) : GX l yX4_ifLoaded wsX4_ifLoaded 4 91 E Sp (wO Xp Bp Tp Cp Rp ++ (wH E Cp sz nw pf ++ (wP E Bp g z lo up pk ++ (wP E Tp g2 z2 lo2 up2 pk2 ++ (wR E Rp ln cd))))) [.ref Xp, .int v1, .int (nI V), .int (nI k0)] (wO Xp Bp Tp Cp Rp ++ (wH E Cp sz nw pf ++ (wP E Bp g z lo up pk ++ (wP E Tp (upd (va_cpy g g2 0 0 15) 2 v1) (((ilC V ((upd z 2 v1, lo, up, 0), 40000, 0)).1).1) (((ilC V ((upd z 2 v1, lo, up, 0), 40000, 0)).1).2.1) (((ilC V ((upd z 2 v1, lo, up, 0), 40000, 0)).1).2.2.1) (((ilC V ((upd z 2 v1, lo, up, 0), 40000, 0)).1).2.2.2) ++ (wR E Rp ln cd))))) (some (.int (ilX k0 (ilC V ((upd z 2 v1, lo, up, 0), 40000, 0))))) := by
  intro sz
  refine Met.ofW (cc := cX4_ifLoaded) (maxL := 7) (ret := (some .int)) (by decide) rfl ?_
  intro p e s m args below meth c s₁ B hml hv
  obtain ⟨⟨rfl, rfl, hP, hK, hD0, hN⟩, hX⟩ := hv
  have hx := B.exec
  have hb := B.bytes
  have hr := B.returns
  have hts := atoms_spec (ws := wsX4_ifLoaded) B.pre
  have hown : s.vm.findClass RX4 = some m.cls := findClass_of_methodNamed B.named
  have hlocks := B.notSynchronized
  have hD := hD0.self (sz := s.heap.size)
  have hA : ∀ q : Nat, s.heap.size ≤ q → va_A (wO Xp Bp Tp Cp Rp ++ (wH E Cp sz nw pf ++ (wP E Bp g z lo up pk ++ (wP E Tp g2 z2 lo2 up2 pk2 ++ (wR E Rp ln cd))))) s.heap.size q := fun q h => Or.inr h
  have hS : va_S (va_A (wO Xp Bp Tp Cp Rp ++ (wH E Cp sz nw pf ++ (wP E Bp g z lo up pk ++ (wP E Tp g2 z2 lo2 up2 pk2 ++ (wR E Rp ln cd))))) s.heap.size) s.heap s.heap [] := va_S.rf
  have hl := lv_entry ([.ref Xp, .int v1, .int (nI V), .int (nI k0)]) (n := 7) (Nat.le_of_ble_eq_true rfl)
  rw [lg_entry_eq]
  generalize (lg_sl ([.ref Xp, .int v1, .int (nI V), .int (nI k0)]) ++ List.replicate (7 - (lg_sl ([.ref Xp, .int v1, .int (nI V), .int (nI k0)])).length) Slot.unset).toArray = ls at hl ⊢
  have hl : lv_has ls 7 [(0, .ref Xp), (1, .int v1), (2, .int (nI V)), (3, .int (nI k0))] := hl
  have hf172 := hts (.fieldLink RX4 172 "PhaseConverter$Plant" "peakCurrent" "I") (List.mem_of_getElem? (i := 5) rfl)
  have hf179 := hts (.fieldLink RX4 179 "PhaseConverter$Plant" "leastVoltage" "I") (List.mem_of_getElem? (i := 7) rfl)
  have hf18 := hts (.fieldLink RX4 18 "PhaseConverter" "trial" "LPhaseConverter$Plant;") (List.mem_of_getElem? (i := 3) rfl)
  have hf187 := hts (.fieldLink RX4 187 "PhaseConverter$Plant" "greatestVoltage" "I") (List.mem_of_getElem? (i := 12) rfl)
  have hf193 := hts (.fieldLink RX4 193 "PhaseConverter$Plant" "active" "I") (List.mem_of_getElem? (i := 18) rfl)
  have hf67 := hts (.fieldLink RX4 67 "PhaseConverter$Plant" "settings" "[I") (List.mem_of_getElem? (i := 4) rfl)
  have hf83 := hts (.fieldLink RX4 83 "PhaseConverter$Plant" "voltage" "I") (List.mem_of_getElem? (i := 16) rfl)
  have hf86 := hts (.fieldLink RX4 86 "PhaseConverter$Plant" "mode" "I") (List.mem_of_getElem? (i := 17) rfl)
  have hiX2 : ∀ w ∈ u_ws RX2 TX2 17, w ∈ wsX4_ifLoaded := memIn [146, 147, 148, 149, 150, 151, 152, 153, 154, 155, 156, 157, 158, 159, 160, 161, 162] rfl
  have hiX4 : ∀ w ∈ u_ws RX4 TX4 4, w ∈ wsX4_ifLoaded := memIn [142, 143, 144, 145] rfl
  refine lv_iconst (v := 2) hx hb dX4_ifLoaded_0 (by decide) ?_
  refine lv_iload_n hx hb dX4_ifLoaded_1 rfl (lv_at hl 1 rfl) ?_
  refine xsPi (As := [.int 2, .int v1]) (rest := []) ⟨hx, hb, hml, hown, hts⟩ (c_X4_fits l E Sp 2 v1) (va_cwS 2 hts gX4_ifLoaded_X4_fits rfl rfl rfl (by decide +kernel) ⟨Nat.le_of_ble_eq_true rfl, Nat.le_of_ble_eq_true rfl⟩) hP hK hD hN hX hS hA rfl hl.1 rfl (Nat.le_of_ble_eq_true rfl) dX4_ifLoaded_2 ⟨Nat.le_refl _, Nat.le_refl _⟩ (fun H locs hP hD hS => ?_)
  refine lv_if_eq (tgt := 29) hx hb dX4_ifLoaded_5 (by decide) (fun c_5 => absurd c_5 hfit) (fun c_5 => ?_)
  refine lv_iload_n hx hb dX4_ifLoaded_8 rfl (lv_at hl 2 rfl) ?_
  refine lv_iconst (v := 1) hx hb dX4_ifLoaded_9 (by decide) ?_
  refine lv_icmp_lt (tgt := 29) hx hb dX4_ifLoaded_10 (by decide) (fun c_10 => absurd c_10 (nI_nlt (b := 1) (by omega) (by omega))) (fun c_10 => ?_)
  refine lv_iload_n hx hb dX4_ifLoaded_13 rfl (lv_at hl 2 rfl) ?_
  refine lv_bipush (v := 100) hx hb dX4_ifLoaded_14 (by decide) ?_
  refine lv_icmp_gt (tgt := 29) hx hb dX4_ifLoaded_16 (by decide) (fun c_16 => absurd c_16 (nI_nlt (a := 100) (by omega) (by omega))) (fun c_16 => ?_)
  refine lv_iload_n hx hb dX4_ifLoaded_19 rfl (lv_at hl 3 rfl) ?_
  refine lv_if_lt (tgt := 29) hx hb dX4_ifLoaded_20 (by decide) (fun c_20 => absurd c_20 (nI_pos (by omega))) (fun c_20 => ?_)
  refine lv_iload_n hx hb dX4_ifLoaded_23 rfl (lv_at hl 3 rfl) ?_
  refine lv_bipush (v := 6) hx hb dX4_ifLoaded_24 (by decide) ?_
  refine lv_icmp_lt (tgt := 39) hx hb dX4_ifLoaded_26 (by decide) (fun c_26 => ?_) (fun c_26 => absurd (nI_lt (b := 6) (by omega) (by omega)) c_26)
  refine lv_aload_n hx hb dX4_ifLoaded_39 rfl (lv_at hl 0 rfl) ?_
  refine gv0v (As := []) (rest := []) ⟨hx, hb, hml, hown, hts⟩ (c_X4_beginTrial l E Xp Cp sz nw pf Bp g z lo up pk Tp g2 z2 lo2 up2 pk2 Rp ln cd) (cwV 0 hts gX4_ifLoaded_X4_beginTrial rfl rfl rfl (by decide +kernel) ⟨Nat.le_of_ble_eq_true rfl, Nat.le_of_ble_eq_true rfl⟩) (va_recv hK hP (ci := 4) (q0 := 0) rfl rfl) hP hK hD hN hS hA rfl hl.1 rfl (Nat.le_of_ble_eq_true rfl) dX4_ifLoaded_40 ⟨Nat.le_refl _, Nat.le_refl _⟩ (fun H locs hP hD hS => ?_)
  have hP : va_P E.1 vwCl (wO Xp Bp Tp Cp Rp ++ (wH E Cp sz nw pf ++ (wP E Bp g z lo up pk ++ (wP E Tp (va_cpy g g2 0 0 15) z lo up pk ++ (wR E Rp ln cd))))) H := hP
  have hD : va_D _ (wO Xp Bp Tp Cp Rp ++ (wH E Cp sz nw pf ++ (wP E Bp g z lo up pk ++ (wP E Tp (va_cpy g g2 0 0 15) z lo up pk ++ (wR E Rp ln cd))))) := hD
  refine lv_aload_n hx hb dX4_ifLoaded_43 rfl (lv_at hl 0 rfl) ?_
  refine va_get (D := E.1) (ci := 4) (v := .ref (Tp 0)) (C := RX4) (T := TX4) (N := 4) hx hb hts hiX4 hown hK hP 0 rfl rfl 1 (by decide) hf18 (fun _ h9 => h9) rfl dX4_ifLoaded_44 ?_
  refine va_get (D := E.1) (ci := 2) (v := .ref (Tp 1)) (C := RX2) (T := TX2) (N := 17) hx hb hts hiX2 hown hK hP 10 rfl rfl 0 (by decide) hf67 (fun _ h9 => h9) rfl dX4_ifLoaded_47 ?_
  refine lv_iconst (v := 2) hx hb dX4_ifLoaded_50 (by decide) ?_
  refine lv_iload_n hx hb dX4_ifLoaded_51 rfl (lv_at hl 1 rfl) ?_
  refine gast hx hb hK hP hD hS 11 rfl 2 (rfl) (by decide) (by decide) dX4_ifLoaded_52 (fun H locs hP hD hS => ?_)
  have hP : va_P E.1 vwCl (wO Xp Bp Tp Cp Rp ++ (wH E Cp sz nw pf ++ (wP E Bp g z lo up pk ++ (wP E Tp (upd (va_cpy g g2 0 0 15) 2 v1) z lo up pk ++ (wR E Rp ln cd))))) H := hP
  have hD : va_D _ (wO Xp Bp Tp Cp Rp ++ (wH E Cp sz nw pf ++ (wP E Bp g z lo up pk ++ (wP E Tp (upd (va_cpy g g2 0 0 15) 2 v1) z lo up pk ++ (wR E Rp ln cd))))) := hD
  have hw9 : wP E Tp (upd (va_cpy g g2 0 0 15) 2 v1) z lo up pk = wP E Tp (upd (va_cpy g g2 0 0 15) 2 v1) (upd z 2 v1) lo up pk := wP_set 2 v1 (by omega)
  have hP : va_P E.1 vwCl (wO Xp Bp Tp Cp Rp ++ (wH E Cp sz nw pf ++ (wP E Bp g z lo up pk ++ (wP E Tp (upd (va_cpy g g2 0 0 15) 2 v1) (upd z 2 v1) lo up pk ++ (wR E Rp ln cd))))) H := Eq.mp (congrArg (fun y9 => va_P E.1 vwCl (wO Xp Bp Tp Cp Rp ++ (wH E Cp sz nw pf ++ (wP E Bp g z lo up pk ++ (y9 ++ (wR E Rp ln cd))))) H) hw9) hP
  have hD : va_D (va_A (wO Xp Bp Tp Cp Rp ++ (wH E Cp sz nw pf ++ (wP E Bp g z lo up pk ++ (wP E Tp g2 z2 lo2 up2 pk2 ++ (wR E Rp ln cd))))) s.heap.size) (wO Xp Bp Tp Cp Rp ++ (wH E Cp sz nw pf ++ (wP E Bp g z lo up pk ++ (wP E Tp (upd (va_cpy g g2 0 0 15) 2 v1) (upd z 2 v1) lo up pk ++ (wR E Rp ln cd))))) := Eq.mp (congrArg (fun y9 => va_D (va_A (wO Xp Bp Tp Cp Rp ++ (wH E Cp sz nw pf ++ (wP E Bp g z lo up pk ++ (wP E Tp g2 z2 lo2 up2 pk2 ++ (wR E Rp ln cd))))) s.heap.size) (wO Xp Bp Tp Cp Rp ++ (wH E Cp sz nw pf ++ (wP E Bp g z lo up pk ++ (y9 ++ (wR E Rp ln cd)))))) hw9) hD
  refine lv_aload_n hx hb dX4_ifLoaded_53 rfl (lv_at hl 0 rfl) ?_
  refine va_get (D := E.1) (ci := 4) (v := .ref (Tp 0)) (C := RX4) (T := TX4) (N := 4) hx hb hts hiX4 hown hK hP 0 rfl rfl 1 (by decide) hf18 (fun _ h9 => h9) rfl dX4_ifLoaded_54 ?_
  refine lv_iconst (v := 0) hx hb dX4_ifLoaded_57 (by decide) ?_
  refine va_put (D := E.1) (ci := 2) (v := .int 0) (ty := .int) (C := RX2) (T := TX2) (N := 17) hx hb hts hiX2 tyX2 tyX2_ok nmX2 hown hK hP hD hS 10 rfl rfl 15 (by decide) hf172 (fun _ h9 => h9) rfl (by decide +kernel) rfl rfl (Nat.le_of_ble_eq_true rfl) dX4_ifLoaded_58 (fun H locs hP hD hS => ?_)
  have hP : va_P E.1 vwCl (wO Xp Bp Tp Cp Rp ++ (wH E Cp sz nw pf ++ (wP E Bp g z lo up pk ++ (wP E Tp (upd (va_cpy g g2 0 0 15) 2 v1) (upd z 2 v1) lo up 0 ++ (wR E Rp ln cd))))) H := hP
  have hD : va_D _ (wO Xp Bp Tp Cp Rp ++ (wH E Cp sz nw pf ++ (wP E Bp g z lo up pk ++ (wP E Tp (upd (va_cpy g g2 0 0 15) 2 v1) (upd z 2 v1) lo up 0 ++ (wR E Rp ln cd))))) := hD
  refine lv_ldc (own := RX4) (v := 40000) hx hb hown (hts (.constant RX4 175 (40000)) (List.mem_of_getElem? (i := 6) rfl)) dX4_ifLoaded_61 ?_
  refine lv_istore (lv' := [(4, .int 40000), (0, .ref Xp), (1, .int v1), (2, .int (nI V)), (3, .int (nI k0))]) hx hb dX4_ifLoaded_63 hl (by decide) rfl (fun ls hl => ?_)
  refine lv_iconst (v := 0) hx hb dX4_ifLoaded_65 (by decide) ?_
  refine lv_istore (lv' := [(5, .int 0), (4, .int 40000), (0, .ref Xp), (1, .int v1), (2, .int (nI V)), (3, .int (nI k0))]) hx hb dX4_ifLoaded_66 hl (by decide) rfl (fun ls hl => ?_)
  refine lv_iconst (v := 0) hx hb dX4_ifLoaded_68 (by decide) ?_
  refine lv_istore (lv' := [(6, .int 0), (5, .int 0), (4, .int 40000), (0, .ref Xp), (1, .int v1), (2, .int (nI V)), (3, .int (nI k0))]) hx hb dX4_ifLoaded_69 hl (by decide) rfl (fun ls hl => ?_)
  have L_71 : ∀ (n i : Nat) (z3 : Nat → Int32) (l3 : Int32) (u3 : Int32) (q3 : Int32) (a3 : Int32) (b3 : Int32) (H : Heap) (locs : List Loc) (ls : Array Slot), (i + n = V) → (zOK z3) → (zZ z3) → (∀ k, k < 15 → (upd (va_cpy g g2 0 0 15) 2 v1) k = z3 k) → (ilC n ((z3, l3, u3, q3), a3, b3) = ilC V ((upd z 2 v1, lo, up, 0), 40000, 0)) → va_P E.1 vwCl (wO Xp Bp Tp Cp Rp ++ (wH E Cp sz nw pf ++ (wP E Bp g z lo up pk ++ (wP E Tp (upd (va_cpy g g2 0 0 15) 2 v1) z3 l3 u3 q3 ++ (wR E Rp ln cd))))) H → va_D (va_A (wO Xp Bp Tp Cp Rp ++ (wH E Cp sz nw pf ++ (wP E Bp g z lo up pk ++ (wP E Tp g2 z2 lo2 up2 pk2 ++ (wR E Rp ln cd))))) s.heap.size) (wO Xp Bp Tp Cp Rp ++ (wH E Cp sz nw pf ++ (wP E Bp g z lo up pk ++ (wP E Tp (upd (va_cpy g g2 0 0 15) 2 v1) z3 l3 u3 q3 ++ (wR E Rp ln cd))))) → va_S (va_A (wO Xp Bp Tp Cp Rp ++ (wH E Cp sz nw pf ++ (wP E Bp g z lo up pk ++ (wP E Tp g2 z2 lo2 up2 pk2 ++ (wR E Rp ln cd))))) s.heap.size) s.heap H locs → lv_has ls 7 [(6, .int (nI i)), (5, .int b3), (4, .int a3), (0, .ref Xp), (1, .int v1), (2, .int (nI V)), (3, .int (nI k0))] → W p l e (gR wsX4_ifLoaded 4 91) s m ([.ref Xp, .int v1, .int (nI V), .int (nI k0)] : List Value).toArray below meth c H locs 0 0 (gMQ below E s (wO Xp Bp Tp Cp Rp ++ (wH E Cp sz nw pf ++ (wP E Bp g z lo up pk ++ (wP E Tp g2 z2 lo2 up2 pk2 ++ (wR E Rp ln cd))))) (wO Xp Bp Tp Cp Rp ++ (wH E Cp sz nw pf ++ (wP E Bp g z lo up pk ++ (wP E Tp (upd (va_cpy g g2 0 0 15) 2 v1) (((ilC V ((upd z 2 v1, lo, up, 0), 40000, 0)).1).1) (((ilC V ((upd z 2 v1, lo, up, 0), 40000, 0)).1).2.1) (((ilC V ((upd z 2 v1, lo, up, 0), 40000, 0)).1).2.2.1) (((ilC V ((upd z 2 v1, lo, up, 0), 40000, 0)).1).2.2.2) ++ (wR E Rp ln cd))))) (some (.int (ilX k0 (ilC V ((upd z 2 v1, lo, up, 0), 40000, 0))))) [.ref Xp, .int v1, .int (nI V), .int (nI k0)]) (F0 m 71 ls []) := by
    intro n
    induction n with
    | zero =>
      intro i z3 l3 u3 q3 a3 b3 H locs ls hin h3 hZ3 hg3 hfn hP hD hS hl
      have hf : ((z3, l3, u3, q3), a3, b3) = ilC V ((upd z 2 v1, lo, up, 0), 40000, 0) := hfn
      refine lv_iload hx hb dX4_ifLoaded_71 (lv_at hl 0 rfl) ?_
      refine lv_iload_n hx hb dX4_ifLoaded_73 rfl (lv_at hl 5 rfl) ?_
      refine lv_icmp_ge (tgt := 118) hx hb dX4_ifLoaded_74 (by decide) (fun c_74 => ?_) (fun c_74 => absurd (nI_le (by omega) (by omega)) c_74)
      refine lv_iload_n hx hb dX4_ifLoaded_118 rfl (lv_at hl 6 rfl) ?_
      obtain rfl | rfl | rfl | rfl | rfl | rfl : k0 = 0 ∨ k0 = 1 ∨ k0 = 2 ∨ k0 = 3 ∨ k0 = 4 ∨ k0 = 5 := by omega
      · refine lv_tableIn (off := 33) (tgt := 152) hx hb dX4_ifLoaded_119 (by decide) (by decide) (by decide) (by decide) ?_
        refine lv_aload_n hx hb dX4_ifLoaded_152 rfl (lv_at hl 3 rfl) ?_
        refine va_get (D := E.1) (ci := 4) (v := .ref (Tp 0)) (C := RX4) (T := TX4) (N := 4) hx hb hts hiX4 hown hK hP 0 rfl rfl 1 (by decide) hf18 (fun _ h9 => h9) rfl dX4_ifLoaded_153 ?_
        refine va_get (D := E.1) (ci := 2) (v := .int (z3 17)) (C := RX2) (T := TX2) (N := 17) hx hb hts hiX2 hown hK hP 10 rfl rfl 5 (by decide) hf83 (fun _ h9 => h9) rfl dX4_ifLoaded_156 ?_
        exact greti hx hb hr hlocks hP hD hS (by rw [← hf]; rfl) (by rw [← hf]) dX4_ifLoaded_159
      · refine lv_tableIn (off := 41) (tgt := 160) hx hb dX4_ifLoaded_119 (by decide) (by decide) (by decide) (by decide) ?_
        refine lv_iload hx hb dX4_ifLoaded_160 (lv_at hl 2 rfl) ?_
        exact greti hx hb hr hlocks hP hD hS (by rw [← hf]; rfl) (by rw [← hf]) dX4_ifLoaded_162
      · refine lv_tableIn (off := 44) (tgt := 163) hx hb dX4_ifLoaded_119 (by decide) (by decide) (by decide) (by decide) ?_
        refine lv_iload hx hb dX4_ifLoaded_163 (lv_at hl 1 rfl) ?_
        exact greti hx hb hr hlocks hP hD hS (by rw [← hf]; rfl) (by rw [← hf]) dX4_ifLoaded_165
      · refine lv_tableIn (off := 47) (tgt := 166) hx hb dX4_ifLoaded_119 (by decide) (by decide) (by decide) (by decide) ?_
        refine lv_aload_n hx hb dX4_ifLoaded_166 rfl (lv_at hl 3 rfl) ?_
        refine va_get (D := E.1) (ci := 4) (v := .ref (Tp 0)) (C := RX4) (T := TX4) (N := 4) hx hb hts hiX4 hown hK hP 0 rfl rfl 1 (by decide) hf18 (fun _ h9 => h9) rfl dX4_ifLoaded_167 ?_
        refine va_get (D := E.1) (ci := 2) (v := .int (z3 20)) (C := RX2) (T := TX2) (N := 17) hx hb hts hiX2 hown hK hP 10 rfl rfl 4 (by decide) hf86 (fun _ h9 => h9) rfl dX4_ifLoaded_170 ?_
        exact greti hx hb hr hlocks hP hD hS (by rw [← hf]; rfl) (by rw [← hf]) dX4_ifLoaded_173
      · refine lv_tableIn (off := 55) (tgt := 174) hx hb dX4_ifLoaded_119 (by decide) (by decide) (by decide) (by decide) ?_
        refine lv_aload_n hx hb dX4_ifLoaded_174 rfl (lv_at hl 3 rfl) ?_
        refine va_get (D := E.1) (ci := 4) (v := .ref (Tp 0)) (C := RX4) (T := TX4) (N := 4) hx hb hts hiX4 hown hK hP 0 rfl rfl 1 (by decide) hf18 (fun _ h9 => h9) rfl dX4_ifLoaded_175 ?_
        refine va_get (D := E.1) (ci := 2) (v := .int (z3 16)) (C := RX2) (T := TX2) (N := 17) hx hb hts hiX2 hown hK hP 10 rfl rfl 3 (by decide) hf193 (fun _ h9 => h9) rfl dX4_ifLoaded_178 ?_
        exact greti hx hb hr hlocks hP hD hS (by rw [← hf]; rfl) (by rw [← hf]) dX4_ifLoaded_181
      · refine lv_tableOut (tgt := 182) hx hb dX4_ifLoaded_119 (by decide) (by decide) ?_
        refine lv_aload_n hx hb dX4_ifLoaded_182 rfl (lv_at hl 3 rfl) ?_
        refine va_get (D := E.1) (ci := 4) (v := .ref (Tp 0)) (C := RX4) (T := TX4) (N := 4) hx hb hts hiX4 hown hK hP 0 rfl rfl 1 (by decide) hf18 (fun _ h9 => h9) rfl dX4_ifLoaded_183 ?_
        refine va_get (D := E.1) (ci := 2) (v := .int q3) (C := RX2) (T := TX2) (N := 17) hx hb hts hiX2 hown hK hP 10 rfl rfl 15 (by decide) hf172 (fun _ h9 => h9) rfl dX4_ifLoaded_186 ?_
        exact greti hx hb hr hlocks hP hD hS (by rw [← hf]; rfl) (by rw [← hf]) dX4_ifLoaded_189
    | succ n ih =>
      intro i z3 l3 u3 q3 a3 b3 H locs ls hin h3 hZ3 hg3 hfn hP hD hS hl
      refine lv_iload hx hb dX4_ifLoaded_71 (lv_at hl 0 rfl) ?_
      refine lv_iload_n hx hb dX4_ifLoaded_73 rfl (lv_at hl 5 rfl) ?_
      refine lv_icmp_ge (tgt := 118) hx hb dX4_ifLoaded_74 (by decide) (fun c_74 => absurd c_74 (nI_ge (by omega) (by omega))) (fun c_74 => ?_)
      refine lv_aload_n hx hb dX4_ifLoaded_77 rfl (lv_at hl 3 rfl) ?_
      refine va_get (D := E.1) (ci := 4) (v := .ref (Tp 0)) (C := RX4) (T := TX4) (N := 4) hx hb hts hiX4 hown hK hP 0 rfl rfl 1 (by decide) hf18 (fun _ h9 => h9) rfl dX4_ifLoaded_78 ?_
      refine gvMv (wO Xp Bp Tp Cp Rp ++ (wH E Cp sz nw pf ++ (wP E Bp g z lo up pk))) (wR E Rp ln cd) (As := []) (rest := []) ⟨hx, hb, hml, hown, hts⟩ (c_X2_passCycle l E Tp (upd (va_cpy g g2 0 0 15) 2 v1) z3 l3 u3 q3 hg3 h3 hZ3) (cwV 0 hts gX4_ifLoaded_X2_passCycle rfl rfl rfl (by decide +kernel) ⟨Nat.le_of_ble_eq_true rfl, Nat.le_of_ble_eq_true rfl⟩) (va_recv hK hP (ci := 2) (q0 := 10) rfl rfl) hP hK hD hN hS hA rfl hl.1 rfl (Nat.le_of_ble_eq_true rfl) dX4_ifLoaded_81 ⟨Nat.le_refl _, Nat.le_refl _⟩ (fun H locs hP hD hS => ?_)
      have hP : va_P E.1 vwCl (wO Xp Bp Tp Cp Rp ++ (wH E Cp sz nw pf ++ (wP E Bp g z lo up pk ++ (wP E Tp (upd (va_cpy g g2 0 0 15) 2 v1) (pcF z3 l3 u3 q3) ((pcU z3 l3 u3 q3).2.1) ((pcU z3 l3 u3 q3).2.2.1) ((pcU z3 l3 u3 q3).2.2.2.1) ++ (wR E Rp ln cd))))) H := hP
      have hD : va_D _ (wO Xp Bp Tp Cp Rp ++ (wH E Cp sz nw pf ++ (wP E Bp g z lo up pk ++ (wP E Tp (upd (va_cpy g g2 0 0 15) 2 v1) (pcF z3 l3 u3 q3) ((pcU z3 l3 u3 q3).2.1) ((pcU z3 l3 u3 q3).2.2.1) ((pcU z3 l3 u3 q3).2.2.2.1) ++ (wR E Rp ln cd))))) := hD
      refine lv_iload hx hb dX4_ifLoaded_84 (lv_at hl 2 rfl) ?_
      refine lv_aload_n hx hb dX4_ifLoaded_86 rfl (lv_at hl 3 rfl) ?_
      refine va_get (D := E.1) (ci := 4) (v := .ref (Tp 0)) (C := RX4) (T := TX4) (N := 4) hx hb hts hiX4 hown hK hP 0 rfl rfl 1 (by decide) hf18 (fun _ h9 => h9) rfl dX4_ifLoaded_87 ?_
      refine va_get (D := E.1) (ci := 2) (v := .int ((pcU z3 l3 u3 q3).2.1)) (C := RX2) (T := TX2) (N := 17) hx hb hts hiX2 hown hK hP 10 rfl rfl 13 (by decide) hf179 (fun _ h9 => h9) rfl dX4_ifLoaded_90 ?_
      refine va_mmin hx hb (by rw [hml]; exact hl.1.symm) hown (hts (.methodLink RX4 182 Lib.Math.min.name) (List.mem_of_getElem? (i := 8) rfl)) (hts (.static Lib.Math.min.name) (List.mem_of_getElem? (i := 9) rfl)) (hts (.initialized "java/lang/Math") (List.mem_of_getElem? (i := 10) rfl)) (hts (.code Lib.Math.min.name Lib.Math.min.code 2 (some .int)) (List.mem_of_getElem? (i := 11) rfl)) (Nat.le_of_ble_eq_true rfl) (Nat.le_of_ble_eq_true rfl) (Nat.le_of_ble_eq_true rfl) (Nat.le_of_ble_eq_true rfl) dX4_ifLoaded_93 ?_
      refine lv_istore (lv' := [(4, .int (if ((pcU z3 l3 u3 q3).2.1) < a3 then ((pcU z3 l3 u3 q3).2.1) else a3)), (6, .int (nI i)), (5, .int b3), (0, .ref Xp), (1, .int v1), (2, .int (nI V)), (3, .int (nI k0))]) hx hb dX4_ifLoaded_96 hl (by decide) rfl (fun ls hl => ?_)
      refine lv_iload hx hb dX4_ifLoaded_98 (lv_at hl 2 rfl) ?_
      refine lv_aload_n hx hb dX4_ifLoaded_100 rfl (lv_at hl 3 rfl) ?_
      refine va_get (D := E.1) (ci := 4) (v := .ref (Tp 0)) (C := RX4) (T := TX4) (N := 4) hx hb hts hiX4 hown hK hP 0 rfl rfl 1 (by decide) hf18 (fun _ h9 => h9) rfl dX4_ifLoaded_101 ?_
      refine va_get (D := E.1) (ci := 2) (v := .int ((pcU z3 l3 u3 q3).2.2.1)) (C := RX2) (T := TX2) (N := 17) hx hb hts hiX2 hown hK hP 10 rfl rfl 14 (by decide) hf187 (fun _ h9 => h9) rfl dX4_ifLoaded_104 ?_
      refine va_mmax hx hb (by rw [hml]; exact hl.1.symm) hown (hts (.methodLink RX4 190 Lib.Math.max.name) (List.mem_of_getElem? (i := 13) rfl)) (hts (.static Lib.Math.max.name) (List.mem_of_getElem? (i := 14) rfl)) (hts (.initialized "java/lang/Math") (List.mem_of_getElem? (i := 10) rfl)) (hts (.code Lib.Math.max.name Lib.Math.max.code 2 (some .int)) (List.mem_of_getElem? (i := 15) rfl)) (Nat.le_of_ble_eq_true rfl) (Nat.le_of_ble_eq_true rfl) (Nat.le_of_ble_eq_true rfl) (Nat.le_of_ble_eq_true rfl) dX4_ifLoaded_107 ?_
      refine lv_istore (lv' := [(5, .int (if b3 < ((pcU z3 l3 u3 q3).2.2.1) then ((pcU z3 l3 u3 q3).2.2.1) else b3)), (4, .int (if ((pcU z3 l3 u3 q3).2.1) < a3 then ((pcU z3 l3 u3 q3).2.1) else a3)), (6, .int (nI i)), (0, .ref Xp), (1, .int v1), (2, .int (nI V)), (3, .int (nI k0))]) hx hb dX4_ifLoaded_110 hl (by decide) rfl (fun ls hl => ?_)
      refine lv_iinc (v := nI (i + 1)) (lv' := [(6, .int (nI (i + 1))), (5, .int (if b3 < ((pcU z3 l3 u3 q3).2.2.1) then ((pcU z3 l3 u3 q3).2.2.1) else b3)), (4, .int (if ((pcU z3 l3 u3 q3).2.1) < a3 then ((pcU z3 l3 u3 q3).2.1) else a3)), (0, .ref Xp), (1, .int v1), (2, .int (nI V)), (3, .int (nI k0))]) hx hb dX4_ifLoaded_112 hl (k := 2) rfl (nI_1 _) (by decide) rfl (fun ls hl => ?_)
      refine lv_goto (tgt := 71) hx hb dX4_ifLoaded_115 (by decide) ?_
      exact ih (i + 1) (pcF z3 l3 u3 q3) ((pcU z3 l3 u3 q3).2.1) ((pcU z3 l3 u3 q3).2.2.1) ((pcU z3 l3 u3 q3).2.2.2.1) (if ((pcU z3 l3 u3 q3).2.1) < a3 then ((pcU z3 l3 u3 q3).2.1) else a3) (if b3 < ((pcU z3 l3 u3 q3).2.2.1) then ((pcU z3 l3 u3 q3).2.2.1) else b3) H locs ls (by omega) (pcF_OK h3) (pcF_Z h3 hZ3) (fun k hk => (hg3 k hk).trans (pcF_g hk).symm) ((ilC_s _ _ _ _ _ _ _).symm.trans hfn) hP hD hS (lv_sub hl [0, 1, 2, 3, 4, 5, 6] rfl)
  exact L_71 (V) (0) (upd z 2 v1) lo up 0 40000 0 H locs ls (by omega) (upd_OK hz (by omega) (by omega) (by omega) (by omega) (by omega)) (zZ_of hZ (upd_n (by omega)) (fun i h1 h2 => pk_un (by omega))) (upd_g (fun k hk => (cpy15 hk).trans (hg k hk))) rfl hP hD hS (lv_sub hl [0, 1, 2, 3, 4, 5, 6] rfl)

set_option maxHeartbeats 4000000 in
set_option maxRecDepth 100000 in
theorem c_X4_begin (l : Launch) (E : EE) (Sp : Nat → Nat) (Xp : Nat) (Cp : Nat → Nat) (sz nw : Int32) (pf : Nat → Int32) (Bp : Nat → Nat) (g z : Nat → Int32) (lo up pk : Int32) (Tp : Nat → Nat) (g2 z2 : Nat → Int32) (lo2 up2 pk2 : Int32) (Rp : Nat → Nat) (ln : Int32) (cd : Nat → Int32) (v1 : Int32) (hv1 : ¬ v1 < 1) (hv4 : ¬ 4 < v1) : GX l yX4_begin wsX4_begin 2 42 E Sp (wO Xp Bp Tp Cp Rp ++ (wH E Cp sz nw pf ++ (wP E Bp g z lo up pk ++ (wP E Tp g2 z2 lo2 up2 pk2 ++ (wR E Rp ln cd))))) [.ref Xp, .int v1] (wO Xp Bp Tp Cp Rp ++ (wH E Cp 0 0 pf ++ (wP E Bp (va_cpy firstT g 0 0 15) (rsZ v1) 0 0 0 ++ (wP E Tp g2 z2 lo2 up2 pk2 ++ (wR E Rp ln cd))))) (some (.int (z 15))) := by
  intro sz
  refine Met.ofW (cc := cX4_begin) (maxL := 3) (ret := (some .int)) (by decide) rfl ?_
  intro p e s m args below meth c s₁ B hml hv
  obtain ⟨⟨rfl, rfl, hP, hK, hD0, hN⟩, hX⟩ := hv
  have hx := B.exec
  have hb := B.bytes
  have hr := B.returns
  have hts := atoms_spec (ws := wsX4_begin) B.pre
  have hown : s.vm.findClass RX4 = some m.cls := findClass_of_methodNamed B.named
  have hlocks := B.notSynchronized
  have hD := hD0.self (sz := s.heap.size)
  have hA : ∀ q : Nat, s.heap.size ≤ q → va_A (wO Xp Bp Tp Cp Rp ++ (wH E Cp sz nw pf ++ (wP E Bp g z lo up pk ++ (wP E Tp g2 z2 lo2 up2 pk2 ++ (wR E Rp ln cd))))) s.heap.size q := fun q h => Or.inr h
  have hS : va_S (va_A (wO Xp Bp Tp Cp Rp ++ (wH E Cp sz nw pf ++ (wP E Bp g z lo up pk ++ (wP E Tp g2 z2 lo2 up2 pk2 ++ (wR E Rp ln cd))))) s.heap.size) s.heap s.heap [] := va_S.rf
  have hl := lv_entry ([.ref Xp, .int v1]) (n := 3) (Nat.le_of_ble_eq_true rfl)
  rw [lg_entry_eq]
  generalize (lg_sl ([.ref Xp, .int v1]) ++ List.replicate (3 - (lg_sl ([.ref Xp, .int v1])).length) Slot.unset).toArray = ls at hl ⊢
  have hl : lv_has ls 3 [(0, .ref Xp), (1, .int v1)] := hl
  have hf14 := hts (.fieldLink RX4 14 "PhaseConverter" "plant" "LPhaseConverter$Plant;") (List.mem_of_getElem? (i := 3) rfl)
  have hf24 := hts (.fieldLink RX4 24 "PhaseConverter" "history" "LPhaseConverter$History;") (List.mem_of_getElem? (i := 5) rfl)
  have hf42 := hts (.fieldLink RX4 42 "PhaseConverter$Plant" "phaseCount" "I") (List.mem_of_getElem? (i := 4) rfl)
  have hiX2 : ∀ w ∈ u_ws RX2 TX2 17, w ∈ wsX4_begin := memIn [55, 56, 57, 58, 59, 60, 61, 62, 63, 64, 65, 66, 67, 68, 69, 70, 71] rfl
  have hiX4 : ∀ w ∈ u_ws RX4 TX4 4, w ∈ wsX4_begin := memIn [51, 52, 53, 54] rfl
  refine lv_iload_n hx hb dX4_begin_0 rfl (lv_at hl 1 rfl) ?_
  refine lv_iconst (v := 1) hx hb dX4_begin_1 (by decide) ?_
  refine lv_icmp_lt (tgt := 10) hx hb dX4_begin_2 (by decide) (fun c_2 => absurd c_2 hv1) (fun c_2 => ?_)
  refine lv_iload_n hx hb dX4_begin_5 rfl (lv_at hl 1 rfl) ?_
  refine lv_iconst (v := 4) hx hb dX4_begin_6 (by decide) ?_
  refine lv_icmp_le (tgt := 20) hx hb dX4_begin_7 (by decide) (fun c_7 => ?_) (fun c_7 => absurd (Int32.not_lt.mp hv4) c_7)
  refine lv_aload_n hx hb dX4_begin_20 rfl (lv_at hl 0 rfl) ?_
  refine va_get (D := E.1) (ci := 4) (v := .ref (Bp 0)) (C := RX4) (T := TX4) (N := 4) hx hb hts hiX4 hown hK hP 0 rfl rfl 0 (by decide) hf14 (fun _ h9 => h9) rfl dX4_begin_21 ?_
  refine va_get (D := E.1) (ci := 2) (v := .int (z 15)) (C := RX2) (T := TX2) (N := 17) hx hb hts hiX2 hown hK hP 3 rfl rfl 2 (by decide) hf42 (fun _ h9 => h9) rfl dX4_begin_24 ?_
  refine lv_istore_n (lv' := [(2, .int (z 15)), (0, .ref Xp), (1, .int v1)]) hx hb dX4_begin_27 rfl hl (by decide) rfl (fun ls hl => ?_)
  refine lv_aload_n hx hb dX4_begin_28 rfl (lv_at hl 1 rfl) ?_
  refine va_get (D := E.1) (ci := 4) (v := .ref (Bp 0)) (C := RX4) (T := TX4) (N := 4) hx hb hts hiX4 hown hK hP 0 rfl rfl 0 (by decide) hf14 (fun _ h9 => h9) rfl dX4_begin_29 ?_
  refine lv_iload_n hx hb dX4_begin_32 rfl (lv_at hl 2 rfl) ?_
  refine xvMv (wO Xp Bp Tp Cp Rp ++ (wH E Cp sz nw pf)) (wP E Tp g2 z2 lo2 up2 pk2 ++ (wR E Rp ln cd)) (As := [.int v1]) (rest := []) ⟨hx, hb, hml, hown, hts⟩ (c_X2_reset l E Sp Bp g z lo up pk v1) (cwV 1 hts gX4_begin_X2_reset rfl rfl rfl (by decide +kernel) ⟨Nat.le_of_ble_eq_true rfl, Nat.le_of_ble_eq_true rfl⟩) (va_recv hK hP (ci := 2) (q0 := 3) rfl rfl) hP hK hD hN hX hS hA rfl hl.1 rfl (Nat.le_of_ble_eq_true rfl) dX4_begin_33 ⟨Nat.le_refl _, Nat.le_refl _⟩ (fun H locs hP hD hS => ?_)
  have hP : va_P E.1 vwCl (wO Xp Bp Tp Cp Rp ++ (wH E Cp sz nw pf ++ (wP E Bp (va_cpy firstT g 0 0 15) (rsZ v1) 0 0 0 ++ (wP E Tp g2 z2 lo2 up2 pk2 ++ (wR E Rp ln cd))))) H := hP
  have hD : va_D _ (wO Xp Bp Tp Cp Rp ++ (wH E Cp sz nw pf ++ (wP E Bp (va_cpy firstT g 0 0 15) (rsZ v1) 0 0 0 ++ (wP E Tp g2 z2 lo2 up2 pk2 ++ (wR E Rp ln cd))))) := hD
  refine lv_aload_n hx hb dX4_begin_36 rfl (lv_at hl 1 rfl) ?_
  refine va_get (D := E.1) (ci := 4) (v := .ref (Cp 0)) (C := RX4) (T := TX4) (N := 4) hx hb hts hiX4 hown hK hP 0 rfl rfl 2 (by decide) hf24 (fun _ h9 => h9) rfl dX4_begin_37 ?_
  refine gvMv (wO Xp Bp Tp Cp Rp) (wP E Bp (va_cpy firstT g 0 0 15) (rsZ v1) 0 0 0 ++ (wP E Tp g2 z2 lo2 up2 pk2 ++ (wR E Rp ln cd))) (As := []) (rest := []) ⟨hx, hb, hml, hown, hts⟩ (c_X0_forget l E Cp sz nw pf) (cwV 0 hts gX4_begin_X0_forget rfl rfl rfl (by decide +kernel) ⟨Nat.le_of_ble_eq_true rfl, Nat.le_of_ble_eq_true rfl⟩) (va_recv hK hP (ci := 0) (q0 := 1) rfl rfl) hP hK hD hN hS hA rfl hl.1 rfl (Nat.le_of_ble_eq_true rfl) dX4_begin_40 ⟨Nat.le_refl _, Nat.le_refl _⟩ (fun H locs hP hD hS => ?_)
  have hP : va_P E.1 vwCl (wO Xp Bp Tp Cp Rp ++ (wH E Cp 0 0 pf ++ (wP E Bp (va_cpy firstT g 0 0 15) (rsZ v1) 0 0 0 ++ (wP E Tp g2 z2 lo2 up2 pk2 ++ (wR E Rp ln cd))))) H := hP
  have hD : va_D _ (wO Xp Bp Tp Cp Rp ++ (wH E Cp 0 0 pf ++ (wP E Bp (va_cpy firstT g 0 0 15) (rsZ v1) 0 0 0 ++ (wP E Tp g2 z2 lo2 up2 pk2 ++ (wR E Rp ln cd))))) := hD
  refine lv_iload_n hx hb dX4_begin_43 rfl (lv_at hl 0 rfl) ?_
  exact greti hx hb hr hlocks hP hD hS (rfl) (rfl) dX4_begin_44

set_option maxHeartbeats 4000000 in
set_option maxRecDepth 100000 in
theorem c_X4_set (l : Launch) (E : EE) (Sp : Nat → Nat) (Xp : Nat) (Cp : Nat → Nat) (sz nw : Int32) (pf : Nat → Int32) (Bp : Nat → Nat) (g z : Nat → Int32) (lo up pk : Int32) (Tp : Nat → Nat) (g2 z2 : Nat → Int32) (lo2 up2 pk2 : Int32) (Rp : Nat → Nat) (ln : Int32) (cd : Nat → Int32) (v1 v2 : Int32) (hfit : ¬ fitI v1 v2 = 0) (hg : ∀ k, k < 15 → g k = z k) : GX l yX4_set wsX4_set 2 41 E Sp (wO Xp Bp Tp Cp Rp ++ (wH E Cp sz nw pf ++ (wP E Bp g z lo up pk ++ (wP E Tp g2 z2 lo2 up2 pk2 ++ (wR E Rp ln cd))))) [.ref Xp, .int v1, .int v2] (wO Xp Bp Tp Cp Rp ++ (wH E Cp sz nw pf ++ (wP E Bp (upd g v1.toNatClampNeg v2) (upd z v1.toNatClampNeg v2) lo up pk ++ (wP E Tp g2 z2 lo2 up2 pk2 ++ (wR E Rp ln cd))))) (some (.int (z v1.toNatClampNeg))) := by
  intro sz
  refine Met.ofW (cc := cX4_set) (maxL := 4) (ret := (some .int)) (by decide) rfl ?_
  intro p e s m args below meth c s₁ B hml hv
  obtain ⟨⟨rfl, rfl, hP, hK, hD0, hN⟩, hX⟩ := hv
  have hx := B.exec
  have hb := B.bytes
  have hr := B.returns
  have hts := atoms_spec (ws := wsX4_set) B.pre
  have hown : s.vm.findClass RX4 = some m.cls := findClass_of_methodNamed B.named
  have hlocks := B.notSynchronized
  have hD := hD0.self (sz := s.heap.size)
  have hA : ∀ q : Nat, s.heap.size ≤ q → va_A (wO Xp Bp Tp Cp Rp ++ (wH E Cp sz nw pf ++ (wP E Bp g z lo up pk ++ (wP E Tp g2 z2 lo2 up2 pk2 ++ (wR E Rp ln cd))))) s.heap.size q := fun q h => Or.inr h
  have hS : va_S (va_A (wO Xp Bp Tp Cp Rp ++ (wH E Cp sz nw pf ++ (wP E Bp g z lo up pk ++ (wP E Tp g2 z2 lo2 up2 pk2 ++ (wR E Rp ln cd))))) s.heap.size) s.heap s.heap [] := va_S.rf
  have hl := lv_entry ([.ref Xp, .int v1, .int v2]) (n := 4) (Nat.le_of_ble_eq_true rfl)
  rw [lg_entry_eq]
  generalize (lg_sl ([.ref Xp, .int v1, .int v2]) ++ List.replicate (4 - (lg_sl ([.ref Xp, .int v1, .int v2])).length) Slot.unset).toArray = ls at hl ⊢
  have hl : lv_has ls 4 [(0, .ref Xp), (1, .int v1), (2, .int v2)] := hl
  have hf14 := hts (.fieldLink RX4 14 "PhaseConverter" "plant" "LPhaseConverter$Plant;") (List.mem_of_getElem? (i := 5) rfl)
  have hf67 := hts (.fieldLink RX4 67 "PhaseConverter$Plant" "settings" "[I") (List.mem_of_getElem? (i := 6) rfl)
  have hiX2 : ∀ w ∈ u_ws RX2 TX2 17, w ∈ wsX4_set := memIn [20, 21, 22, 23, 24, 25, 26, 27, 28, 29, 30, 31, 32, 33, 34, 35, 36] rfl
  have hiX4 : ∀ w ∈ u_ws RX4 TX4 4, w ∈ wsX4_set := memIn [16, 17, 18, 19] rfl
  have hix := inRg_ix (n := 14) (by decide) (fit_in hfit)
  have hix2 := hix.2
  refine lv_iload_n hx hb dX4_set_0 rfl (lv_at hl 1 rfl) ?_
  refine gsPi (As := [.int v1]) (rest := []) ⟨hx, hb, hml, hown, hts⟩ (c_X4_isSetting l E v1) (va_cwS 1 hts gX4_set_X4_isSetting rfl rfl rfl (by decide +kernel) ⟨Nat.le_of_ble_eq_true rfl, Nat.le_of_ble_eq_true rfl⟩) hP hK hD hN hS hA rfl hl.1 rfl (Nat.le_of_ble_eq_true rfl) dX4_set_1 ⟨Nat.le_refl _, Nat.le_refl _⟩ (fun H locs hP hD hS => ?_)
  refine lv_if_ne (tgt := 17) hx hb dX4_set_4 (by decide) (fun c_4 => ?_) (fun c_4 => absurd c_4 (fit_in hfit))
  refine lv_iload_n hx hb dX4_set_17 rfl (lv_at hl 1 rfl) ?_
  refine lv_iload_n hx hb dX4_set_18 rfl (lv_at hl 2 rfl) ?_
  refine xsPi (As := [.int v1, .int v2]) (rest := []) ⟨hx, hb, hml, hown, hts⟩ (c_X4_fits l E Sp v1 v2) (va_cwS 2 hts gX4_set_X4_fits rfl rfl rfl (by decide +kernel) ⟨Nat.le_of_ble_eq_true rfl, Nat.le_of_ble_eq_true rfl⟩) hP hK hD hN hX hS hA rfl hl.1 rfl (Nat.le_of_ble_eq_true rfl) dX4_set_19 ⟨Nat.le_refl _, Nat.le_refl _⟩ (fun H locs hP hD hS => ?_)
  refine lv_if_ne (tgt := 35) hx hb dX4_set_22 (by decide) (fun c_22 => ?_) (fun c_22 => absurd c_22 hfit)
  refine lv_aload_n hx hb dX4_set_35 rfl (lv_at hl 0 rfl) ?_
  refine va_get (D := E.1) (ci := 4) (v := .ref (Bp 0)) (C := RX4) (T := TX4) (N := 4) hx hb hts hiX4 hown hK hP 0 rfl rfl 0 (by decide) hf14 (fun _ h9 => h9) rfl dX4_set_36 ?_
  refine va_get (D := E.1) (ci := 2) (v := .ref (Bp 1)) (C := RX2) (T := TX2) (N := 17) hx hb hts hiX2 hown hK hP 3 rfl rfl 0 (by decide) hf67 (fun _ h9 => h9) rfl dX4_set_39 ?_
  refine lv_iload_n hx hb dX4_set_42 rfl (lv_at hl 1 rfl) ?_
  refine gald (x := z v1.toNatClampNeg) hx hb hK hP 4 rfl v1.toNatClampNeg (hix.1.symm) (hix.2) (by decide) (hg v1.toNatClampNeg (by omega)) dX4_set_43 ?_
  refine lv_istore_n (lv' := [(3, .int (z v1.toNatClampNeg)), (0, .ref Xp), (1, .int v1), (2, .int v2)]) hx hb dX4_set_44 rfl hl (by decide) rfl (fun ls hl => ?_)
  refine lv_aload_n hx hb dX4_set_45 rfl (lv_at hl 1 rfl) ?_
  refine va_get (D := E.1) (ci := 4) (v := .ref (Bp 0)) (C := RX4) (T := TX4) (N := 4) hx hb hts hiX4 hown hK hP 0 rfl rfl 0 (by decide) hf14 (fun _ h9 => h9) rfl dX4_set_46 ?_
  refine va_get (D := E.1) (ci := 2) (v := .ref (Bp 1)) (C := RX2) (T := TX2) (N := 17) hx hb hts hiX2 hown hK hP 3 rfl rfl 0 (by decide) hf67 (fun _ h9 => h9) rfl dX4_set_49 ?_
  refine lv_iload_n hx hb dX4_set_52 rfl (lv_at hl 2 rfl) ?_
  refine lv_iload_n hx hb dX4_set_53 rfl (lv_at hl 3 rfl) ?_
  refine gast hx hb hK hP hD hS 4 rfl v1.toNatClampNeg (hix.1.symm) (hix.2) (by decide) dX4_set_54 (fun H locs hP hD hS => ?_)
  have hP : va_P E.1 vwCl (wO Xp Bp Tp Cp Rp ++ (wH E Cp sz nw pf ++ (wP E Bp (upd g v1.toNatClampNeg v2) z lo up pk ++ (wP E Tp g2 z2 lo2 up2 pk2 ++ (wR E Rp ln cd))))) H := hP
  have hD : va_D _ (wO Xp Bp Tp Cp Rp ++ (wH E Cp sz nw pf ++ (wP E Bp (upd g v1.toNatClampNeg v2) z lo up pk ++ (wP E Tp g2 z2 lo2 up2 pk2 ++ (wR E Rp ln cd))))) := hD
  have hw9 : wP E Bp (upd g v1.toNatClampNeg v2) z lo up pk = wP E Bp (upd g v1.toNatClampNeg v2) (upd z v1.toNatClampNeg v2) lo up pk := wP_set v1.toNatClampNeg v2 hix.2
  have hP : va_P E.1 vwCl (wO Xp Bp Tp Cp Rp ++ (wH E Cp sz nw pf ++ (wP E Bp (upd g v1.toNatClampNeg v2) (upd z v1.toNatClampNeg v2) lo up pk ++ (wP E Tp g2 z2 lo2 up2 pk2 ++ (wR E Rp ln cd))))) H := Eq.mp (congrArg (fun y9 => va_P E.1 vwCl (wO Xp Bp Tp Cp Rp ++ (wH E Cp sz nw pf ++ (y9 ++ (wP E Tp g2 z2 lo2 up2 pk2 ++ (wR E Rp ln cd))))) H) hw9) hP
  have hD : va_D (va_A (wO Xp Bp Tp Cp Rp ++ (wH E Cp sz nw pf ++ (wP E Bp g z lo up pk ++ (wP E Tp g2 z2 lo2 up2 pk2 ++ (wR E Rp ln cd))))) s.heap.size) (wO Xp Bp Tp Cp Rp ++ (wH E Cp sz nw pf ++ (wP E Bp (upd g v1.toNatClampNeg v2) (upd z v1.toNatClampNeg v2) lo up pk ++ (wP E Tp g2 z2 lo2 up2 pk2 ++ (wR E Rp ln cd))))) := Eq.mp (congrArg (fun y9 => va_D (va_A (wO Xp Bp Tp Cp Rp ++ (wH E Cp sz nw pf ++ (wP E Bp g z lo up pk ++ (wP E Tp g2 z2 lo2 up2 pk2 ++ (wR E Rp ln cd))))) s.heap.size) (wO Xp Bp Tp Cp Rp ++ (wH E Cp sz nw pf ++ (y9 ++ (wP E Tp g2 z2 lo2 up2 pk2 ++ (wR E Rp ln cd)))))) hw9) hD
  refine lv_iload_n hx hb dX4_set_55 rfl (lv_at hl 0 rfl) ?_
  exact greti hx hb hr hlocks hP hD hS (rfl) (rfl) dX4_set_56

set_option maxHeartbeats 4000000 in
set_option maxRecDepth 100000 in
theorem c_X4_setting (l : Launch) (E : EE) (Xp : Nat) (Cp : Nat → Nat) (sz nw : Int32) (pf : Nat → Int32) (Bp : Nat → Nat) (g z : Nat → Int32) (lo up pk : Int32) (Tp : Nat → Nat) (g2 z2 : Nat → Int32) (lo2 up2 pk2 : Int32) (Rp : Nat → Nat) (ln : Int32) (cd : Nat → Int32) (v1 : Int32) (hin : ¬ inRg v1 0 14 = 0) (hg : ∀ k, k < 15 → g k = z k) : GM l yX4_setting wsX4_setting 1 20 E (wO Xp Bp Tp Cp Rp ++ (wH E Cp sz nw pf ++ (wP E Bp g z lo up pk ++ (wP E Tp g2 z2 lo2 up2 pk2 ++ (wR E Rp ln cd))))) [.ref Xp, .int v1] (wO Xp Bp Tp Cp Rp ++ (wH E Cp sz nw pf ++ (wP E Bp g z lo up pk ++ (wP E Tp g2 z2 lo2 up2 pk2 ++ (wR E Rp ln cd))))) (some (.int (z v1.toNatClampNeg))) := by
  intro sz
  refine Met.ofW (cc := cX4_setting) (maxL := 2) (ret := (some .int)) (by decide) rfl ?_
  intro p e s m args below meth c s₁ B hml hv
  obtain ⟨rfl, rfl, hP, hK, hD0, hN⟩ := hv
  have hx := B.exec
  have hb := B.bytes
  have hr := B.returns
  have hts := atoms_spec (ws := wsX4_setting) B.pre
  have hown : s.vm.findClass RX4 = some m.cls := findClass_of_methodNamed B.named
  have hlocks := B.notSynchronized
  have hD := hD0.self (sz := s.heap.size)
  have hA : ∀ q : Nat, s.heap.size ≤ q → va_A (wO Xp Bp Tp Cp Rp ++ (wH E Cp sz nw pf ++ (wP E Bp g z lo up pk ++ (wP E Tp g2 z2 lo2 up2 pk2 ++ (wR E Rp ln cd))))) s.heap.size q := fun q h => Or.inr h
  have hS : va_S (va_A (wO Xp Bp Tp Cp Rp ++ (wH E Cp sz nw pf ++ (wP E Bp g z lo up pk ++ (wP E Tp g2 z2 lo2 up2 pk2 ++ (wR E Rp ln cd))))) s.heap.size) s.heap s.heap [] := va_S.rf
  have hl := lv_entry ([.ref Xp, .int v1]) (n := 2) (Nat.le_of_ble_eq_true rfl)
  rw [lg_entry_eq]
  generalize (lg_sl ([.ref Xp, .int v1]) ++ List.replicate (2 - (lg_sl ([.ref Xp, .int v1])).length) Slot.unset).toArray = ls at hl ⊢
  have hl : lv_has ls 2 [(0, .ref Xp), (1, .int v1)] := hl
  have hf14 := hts (.fieldLink RX4 14 "PhaseConverter" "plant" "LPhaseConverter$Plant;") (List.mem_of_getElem? (i := 3) rfl)
  have hf67 := hts (.fieldLink RX4 67 "PhaseConverter$Plant" "settings" "[I") (List.mem_of_getElem? (i := 4) rfl)
  have hiX2 : ∀ w ∈ u_ws RX2 TX2 17, w ∈ wsX4_setting := memIn [13, 14, 15, 16, 17, 18, 19, 20, 21, 22, 23, 24, 25, 26, 27, 28, 29] rfl
  have hiX4 : ∀ w ∈ u_ws RX4 TX4 4, w ∈ wsX4_setting := memIn [9, 10, 11, 12] rfl
  have hix := inRg_ix (n := 14) (by decide) hin
  have hix2 := hix.2
  refine lv_iload_n hx hb dX4_setting_0 rfl (lv_at hl 1 rfl) ?_
  refine gsPi (As := [.int v1]) (rest := []) ⟨hx, hb, hml, hown, hts⟩ (c_X4_isSetting l E v1) (va_cwS 1 hts gX4_setting_X4_isSetting rfl rfl rfl (by decide +kernel) ⟨Nat.le_of_ble_eq_true rfl, Nat.le_of_ble_eq_true rfl⟩) hP hK hD hN hS hA rfl hl.1 rfl (Nat.le_of_ble_eq_true rfl) dX4_setting_1 ⟨Nat.le_refl _, Nat.le_refl _⟩ (fun H locs hP hD hS => ?_)
  refine lv_if_ne (tgt := 17) hx hb dX4_setting_4 (by decide) (fun c_4 => ?_) (fun c_4 => absurd c_4 hin)
  refine lv_aload_n hx hb dX4_setting_17 rfl (lv_at hl 0 rfl) ?_
  refine va_get (D := E.1) (ci := 4) (v := .ref (Bp 0)) (C := RX4) (T := TX4) (N := 4) hx hb hts hiX4 hown hK hP 0 rfl rfl 0 (by decide) hf14 (fun _ h9 => h9) rfl dX4_setting_18 ?_
  refine va_get (D := E.1) (ci := 2) (v := .ref (Bp 1)) (C := RX2) (T := TX2) (N := 17) hx hb hts hiX2 hown hK hP 3 rfl rfl 0 (by decide) hf67 (fun _ h9 => h9) rfl dX4_setting_21 ?_
  refine lv_iload_n hx hb dX4_setting_24 rfl (lv_at hl 1 rfl) ?_
  refine gald (x := z v1.toNatClampNeg) hx hb hK hP 4 rfl v1.toNatClampNeg (hix.1.symm) (hix.2) (by decide) (hg v1.toNatClampNeg (by omega)) dX4_setting_25 ?_
  exact greti hx hb hr hlocks hP hD hS (rfl) (rfl) dX4_setting_26

set_option maxHeartbeats 4000000 in
set_option maxRecDepth 100000 in
theorem c_X4_start (l : Launch) (E : EE) (Xp : Nat) (Cp : Nat → Nat) (sz nw : Int32) (pf : Nat → Int32) (Bp : Nat → Nat) (g z : Nat → Int32) (lo up pk : Int32) (Tp : Nat → Nat) (g2 z2 : Nat → Int32) (lo2 up2 pk2 : Int32) (Rp : Nat → Nat) (ln : Int32) (cd : Nat → Int32) (hrun0 : runsI z = 0) (hz : zOK z) (hZ : zZ z) : GM l yX4_start wsX4_start 1 21 E (wO Xp Bp Tp Cp Rp ++ (wH E Cp sz nw pf ++ (wP E Bp g z lo up pk ++ (wP E Tp g2 z2 lo2 up2 pk2 ++ (wR E Rp ln cd))))) [.ref Xp] (wO Xp Bp Tp Cp Rp ++ (wH E Cp sz nw pf ++ (wP E Bp g (startZ z) lo up pk ++ (wP E Tp g2 z2 lo2 up2 pk2 ++ (wR E Rp ln cd))))) (some (.int (startZ z 17))) := by
  intro sz
  refine Met.ofW (cc := cX4_start) (maxL := 1) (ret := (some .int)) (by decide) rfl ?_
  intro p e s m args below meth c s₁ B hml hv
  obtain ⟨rfl, rfl, hP, hK, hD0, hN⟩ := hv
  have hx := B.exec
  have hb := B.bytes
  have hr := B.returns
  have hts := atoms_spec (ws := wsX4_start) B.pre
  have hown : s.vm.findClass RX4 = some m.cls := findClass_of_methodNamed B.named
  have hlocks := B.notSynchronized
  have hD := hD0.self (sz := s.heap.size)
  have hA : ∀ q : Nat, s.heap.size ≤ q → va_A (wO Xp Bp Tp Cp Rp ++ (wH E Cp sz nw pf ++ (wP E Bp g z lo up pk ++ (wP E Tp g2 z2 lo2 up2 pk2 ++ (wR E Rp ln cd))))) s.heap.size q := fun q h => Or.inr h
  have hS : va_S (va_A (wO Xp Bp Tp Cp Rp ++ (wH E Cp sz nw pf ++ (wP E Bp g z lo up pk ++ (wP E Tp g2 z2 lo2 up2 pk2 ++ (wR E Rp ln cd))))) s.heap.size) s.heap s.heap [] := va_S.rf
  have hl := lv_entry ([.ref Xp]) (n := 1) (Nat.le_of_ble_eq_true rfl)
  rw [lg_entry_eq]
  generalize (lg_sl ([.ref Xp]) ++ List.replicate (1 - (lg_sl ([.ref Xp])).length) Slot.unset).toArray = ls at hl ⊢
  have hl : lv_has ls 1 [(0, .ref Xp)] := hl
  have hf14 := hts (.fieldLink RX4 14 "PhaseConverter" "plant" "LPhaseConverter$Plant;") (List.mem_of_getElem? (i := 3) rfl)
  have hf83 := hts (.fieldLink RX4 83 "PhaseConverter$Plant" "voltage" "I") (List.mem_of_getElem? (i := 4) rfl)
  have hiX2 : ∀ w ∈ u_ws RX2 TX2 17, w ∈ wsX4_start := memIn [28, 29, 30, 31, 32, 33, 34, 35, 36, 37, 38, 39, 40, 41, 42, 43, 44] rfl
  have hiX4 : ∀ w ∈ u_ws RX4 TX4 4, w ∈ wsX4_start := memIn [24, 25, 26, 27] rfl
  refine lv_aload_n hx hb dX4_start_0 rfl (lv_at hl 0 rfl) ?_
  refine va_get (D := E.1) (ci := 4) (v := .ref (Bp 0)) (C := RX4) (T := TX4) (N := 4) hx hb hts hiX4 hown hK hP 0 rfl rfl 0 (by decide) hf14 (fun _ h9 => h9) rfl dX4_start_1 ?_
  refine gvMi (wO Xp Bp Tp Cp Rp ++ (wH E Cp sz nw pf)) (wP E Tp g2 z2 lo2 up2 pk2 ++ (wR E Rp ln cd)) (As := []) (rest := []) ⟨hx, hb, hml, hown, hts⟩ (c_X2_runs l E Bp g z lo up pk) (cwV 0 hts gX4_start_X2_runs rfl rfl rfl (by decide +kernel) ⟨Nat.le_of_ble_eq_true rfl, Nat.le_of_ble_eq_true rfl⟩) (va_recv hK hP (ci := 2) (q0 := 3) rfl rfl) hP hK hD hN hS hA rfl hl.1 rfl (Nat.le_of_ble_eq_true rfl) dX4_start_4 ⟨Nat.le_refl _, Nat.le_refl _⟩ (fun H locs hP hD hS => ?_)
  have hP : va_P E.1 vwCl (wO Xp Bp Tp Cp Rp ++ (wH E Cp sz nw pf ++ (wP E Bp g z lo up pk ++ (wP E Tp g2 z2 lo2 up2 pk2 ++ (wR E Rp ln cd))))) H := hP
  have hD : va_D _ (wO Xp Bp Tp Cp Rp ++ (wH E Cp sz nw pf ++ (wP E Bp g z lo up pk ++ (wP E Tp g2 z2 lo2 up2 pk2 ++ (wR E Rp ln cd))))) := hD
  refine lv_if_eq (tgt := 20) hx hb dX4_start_7 (by decide) (fun c_7 => ?_) (fun c_7 => absurd hrun0 c_7)
  refine lv_aload_n hx hb dX4_start_20 rfl (lv_at hl 0 rfl) ?_
  refine va_get (D := E.1) (ci := 4) (v := .ref (Bp 0)) (C := RX4) (T := TX4) (N := 4) hx hb hts hiX4 hown hK hP 0 rfl rfl 0 (by decide) hf14 (fun _ h9 => h9) rfl dX4_start_21 ?_
  refine gvMv (wO Xp Bp Tp Cp Rp ++ (wH E Cp sz nw pf)) (wP E Tp g2 z2 lo2 up2 pk2 ++ (wR E Rp ln cd)) (As := []) (rest := []) ⟨hx, hb, hml, hown, hts⟩ (c_X2_softStart l E Bp g z lo up pk hz hZ) (cwV 0 hts gX4_start_X2_softStart rfl rfl rfl (by decide +kernel) ⟨Nat.le_of_ble_eq_true rfl, Nat.le_of_ble_eq_true rfl⟩) (va_recv hK hP (ci := 2) (q0 := 3) rfl rfl) hP hK hD hN hS hA rfl hl.1 rfl (Nat.le_of_ble_eq_true rfl) dX4_start_24 ⟨Nat.le_refl _, Nat.le_refl _⟩ (fun H locs hP hD hS => ?_)
  have hP : va_P E.1 vwCl (wO Xp Bp Tp Cp Rp ++ (wH E Cp sz nw pf ++ (wP E Bp g (startZ z) lo up pk ++ (wP E Tp g2 z2 lo2 up2 pk2 ++ (wR E Rp ln cd))))) H := hP
  have hD : va_D _ (wO Xp Bp Tp Cp Rp ++ (wH E Cp sz nw pf ++ (wP E Bp g (startZ z) lo up pk ++ (wP E Tp g2 z2 lo2 up2 pk2 ++ (wR E Rp ln cd))))) := hD
  refine lv_aload_n hx hb dX4_start_27 rfl (lv_at hl 0 rfl) ?_
  refine va_get (D := E.1) (ci := 4) (v := .ref (Bp 0)) (C := RX4) (T := TX4) (N := 4) hx hb hts hiX4 hown hK hP 0 rfl rfl 0 (by decide) hf14 (fun _ h9 => h9) rfl dX4_start_28 ?_
  refine va_get (D := E.1) (ci := 2) (v := .int ((startZ z) 17)) (C := RX2) (T := TX2) (N := 17) hx hb hts hiX2 hown hK hP 3 rfl rfl 5 (by decide) hf83 (fun _ h9 => h9) rfl dX4_start_31 ?_
  exact greti hx hb hr hlocks hP hD hS (rfl) (rfl) dX4_start_34

set_option maxHeartbeats 4000000 in
set_option maxRecDepth 100000 in
theorem c_X4_run (l : Launch) (E : EE) (Xp : Nat) (Cp : Nat → Nat) (sz nw : Int32) (pf : Nat → Int32) (Bp : Nat → Nat) (g z : Nat → Int32) (lo up pk : Int32) (Tp : Nat → Nat) (g2 z2 : Nat → Int32) (lo2 up2 pk2 : Int32) (Rp : Nat → Nat) (ln : Int32) (cd : Nat → Int32) (V : Nat) (hV : V ≤ 200) (hin : ¬ inRg (nI V) 1 200 = 0) (hroom : ¬ romI (nI V) z = 0) (hg : ∀ k, k < 15 → g k = z k) (hz : zOK z) (hZ : zZ z) (hrk : rOK sz nw) : GM l yX4_run wsX4_run 5 114 E (wO Xp Bp Tp Cp Rp ++ (wH E Cp sz nw pf ++ (wP E Bp g z lo up pk ++ (wP E Tp g2 z2 lo2 up2 pk2 ++ (wR E Rp ln cd))))) [.ref Xp, .int (nI V)] (wO Xp Bp Tp Cp Rp ++ (wH E Cp ((pcsL V ((z, lo, up, pk), (sz, nw, pf))).2.1) ((pcsL V ((z, lo, up, pk), (sz, nw, pf))).2.2.1) ((pcsL V ((z, lo, up, pk), (sz, nw, pf))).2.2.2) ++ (wP E Bp g ((pcsL V ((z, lo, up, pk), (sz, nw, pf))).1.1) ((pcsL V ((z, lo, up, pk), (sz, nw, pf))).1.2.1) ((pcsL V ((z, lo, up, pk), (sz, nw, pf))).1.2.2.1) ((pcsL V ((z, lo, up, pk), (sz, nw, pf))).1.2.2.2) ++ (wP E Tp g2 z2 lo2 up2 pk2 ++ (wR E Rp ln cd))))) (some (.int ((pcsL V ((z, lo, up, pk), (sz, nw, pf))).1.1 17))) := by
  intro sz
  refine Met.ofW (cc := cX4_run) (maxL := 2) (ret := (some .int)) (by decide) rfl ?_
  intro p e s m args below meth c s₁ B hml hv
  obtain ⟨rfl, rfl, hP, hK, hD0, hN⟩ := hv
  have hx := B.exec
  have hb := B.bytes
  have hr := B.returns
  have hts := atoms_spec (ws := wsX4_run) B.pre
  have hown : s.vm.findClass RX4 = some m.cls := findClass_of_methodNamed B.named
  have hlocks := B.notSynchronized
  have hD := hD0.self (sz := s.heap.size)
  have hA : ∀ q : Nat, s.heap.size ≤ q → va_A (wO Xp Bp Tp Cp Rp ++ (wH E Cp sz nw pf ++ (wP E Bp g z lo up pk ++ (wP E Tp g2 z2 lo2 up2 pk2 ++ (wR E Rp ln cd))))) s.heap.size q := fun q h => Or.inr h
  have hS : va_S (va_A (wO Xp Bp Tp Cp Rp ++ (wH E Cp sz nw pf ++ (wP E Bp g z lo up pk ++ (wP E Tp g2 z2 lo2 up2 pk2 ++ (wR E Rp ln cd))))) s.heap.size) s.heap s.heap [] := va_S.rf
  have hl := lv_entry ([.ref Xp, .int (nI V)]) (n := 2) (Nat.le_of_ble_eq_true rfl)
  rw [lg_entry_eq]
  generalize (lg_sl ([.ref Xp, .int (nI V)]) ++ List.replicate (2 - (lg_sl ([.ref Xp, .int (nI V)])).length) Slot.unset).toArray = ls at hl ⊢
  have hl : lv_has ls 2 [(0, .ref Xp), (1, .int (nI V))] := hl
  have hf14 := hts (.fieldLink RX4 14 "PhaseConverter" "plant" "LPhaseConverter$Plant;") (List.mem_of_getElem? (i := 5) rfl)
  have hf83 := hts (.fieldLink RX4 83 "PhaseConverter$Plant" "voltage" "I") (List.mem_of_getElem? (i := 6) rfl)
  have hiX2 : ∀ w ∈ u_ws RX2 TX2 17, w ∈ wsX4_run := memIn [150, 151, 152, 153, 154, 155, 156, 157, 158, 159, 160, 161, 162, 163, 164, 165, 166] rfl
  have hiX4 : ∀ w ∈ u_ws RX4 TX4 4, w ∈ wsX4_run := memIn [146, 147, 148, 149] rfl
  refine lv_iload_n hx hb dX4_run_0 rfl (lv_at hl 1 rfl) ?_
  refine gsPi (As := [.int (nI V)]) (rest := []) ⟨hx, hb, hml, hown, hts⟩ (c_X4_isRunLength l E (nI V)) (va_cwS 1 hts gX4_run_X4_isRunLength rfl rfl rfl (by decide +kernel) ⟨Nat.le_of_ble_eq_true rfl, Nat.le_of_ble_eq_true rfl⟩) hP hK hD hN hS hA rfl hl.1 rfl (Nat.le_of_ble_eq_true rfl) dX4_run_1 ⟨Nat.le_refl _, Nat.le_refl _⟩ (fun H locs hP hD hS => ?_)
  refine lv_if_ne (tgt := 17) hx hb dX4_run_4 (by decide) (fun c_4 => ?_) (fun c_4 => absurd c_4 hin)
  refine lv_aload_n hx hb dX4_run_17 rfl (lv_at hl 0 rfl) ?_
  refine lv_iload_n hx hb dX4_run_18 rfl (lv_at hl 1 rfl) ?_
  refine gv0i (As := [.int (nI V)]) (rest := []) ⟨hx, hb, hml, hown, hts⟩ (c_X4_hasRoomFor l E Xp Cp sz nw pf Bp g z lo up pk Tp g2 z2 lo2 up2 pk2 Rp ln cd (nI V)) (cwV 1 hts gX4_run_X4_hasRoomFor rfl rfl rfl (by decide +kernel) ⟨Nat.le_of_ble_eq_true rfl, Nat.le_of_ble_eq_true rfl⟩) (va_recv hK hP (ci := 4) (q0 := 0) rfl rfl) hP hK hD hN hS hA rfl hl.1 rfl (Nat.le_of_ble_eq_true rfl) dX4_run_19 ⟨Nat.le_refl _, Nat.le_refl _⟩ (fun H locs hP hD hS => ?_)
  have hP : va_P E.1 vwCl (wO Xp Bp Tp Cp Rp ++ (wH E Cp sz nw pf ++ (wP E Bp g z lo up pk ++ (wP E Tp g2 z2 lo2 up2 pk2 ++ (wR E Rp ln cd))))) H := hP
  have hD : va_D _ (wO Xp Bp Tp Cp Rp ++ (wH E Cp sz nw pf ++ (wP E Bp g z lo up pk ++ (wP E Tp g2 z2 lo2 up2 pk2 ++ (wR E Rp ln cd))))) := hD
  refine lv_if_ne (tgt := 35) hx hb dX4_run_22 (by decide) (fun c_22 => ?_) (fun c_22 => absurd c_22 hroom)
  refine lv_aload_n hx hb dX4_run_35 rfl (lv_at hl 0 rfl) ?_
  refine lv_iload_n hx hb dX4_run_36 rfl (lv_at hl 1 rfl) ?_
  refine gv0v (As := [.int (nI V)]) (rest := []) ⟨hx, hb, hml, hown, hts⟩ (c_X4_passCycles l E Xp Cp sz nw pf Bp g z lo up pk Tp g2 z2 lo2 up2 pk2 Rp ln cd V hV hg hz hZ hrk) (cwV 1 hts gX4_run_X4_passCycles rfl rfl rfl (by decide +kernel) ⟨Nat.le_of_ble_eq_true rfl, Nat.le_of_ble_eq_true rfl⟩) (va_recv hK hP (ci := 4) (q0 := 0) rfl rfl) hP hK hD hN hS hA rfl hl.1 rfl (Nat.le_of_ble_eq_true rfl) dX4_run_37 ⟨Nat.le_refl _, Nat.le_refl _⟩ (fun H locs hP hD hS => ?_)
  have hP : va_P E.1 vwCl (wO Xp Bp Tp Cp Rp ++ (wH E Cp ((pcsL V ((z, lo, up, pk), (sz, nw, pf))).2.1) ((pcsL V ((z, lo, up, pk), (sz, nw, pf))).2.2.1) ((pcsL V ((z, lo, up, pk), (sz, nw, pf))).2.2.2) ++ (wP E Bp g ((pcsL V ((z, lo, up, pk), (sz, nw, pf))).1.1) ((pcsL V ((z, lo, up, pk), (sz, nw, pf))).1.2.1) ((pcsL V ((z, lo, up, pk), (sz, nw, pf))).1.2.2.1) ((pcsL V ((z, lo, up, pk), (sz, nw, pf))).1.2.2.2) ++ (wP E Tp g2 z2 lo2 up2 pk2 ++ (wR E Rp ln cd))))) H := hP
  have hD : va_D _ (wO Xp Bp Tp Cp Rp ++ (wH E Cp ((pcsL V ((z, lo, up, pk), (sz, nw, pf))).2.1) ((pcsL V ((z, lo, up, pk), (sz, nw, pf))).2.2.1) ((pcsL V ((z, lo, up, pk), (sz, nw, pf))).2.2.2) ++ (wP E Bp g ((pcsL V ((z, lo, up, pk), (sz, nw, pf))).1.1) ((pcsL V ((z, lo, up, pk), (sz, nw, pf))).1.2.1) ((pcsL V ((z, lo, up, pk), (sz, nw, pf))).1.2.2.1) ((pcsL V ((z, lo, up, pk), (sz, nw, pf))).1.2.2.2) ++ (wP E Tp g2 z2 lo2 up2 pk2 ++ (wR E Rp ln cd))))) := hD
  refine lv_aload_n hx hb dX4_run_40 rfl (lv_at hl 0 rfl) ?_
  refine va_get (D := E.1) (ci := 4) (v := .ref (Bp 0)) (C := RX4) (T := TX4) (N := 4) hx hb hts hiX4 hown hK hP 0 rfl rfl 0 (by decide) hf14 (fun _ h9 => h9) rfl dX4_run_41 ?_
  refine va_get (D := E.1) (ci := 2) (v := .int (((pcsL V ((z, lo, up, pk), (sz, nw, pf))).1.1) 17)) (C := RX2) (T := TX2) (N := 17) hx hb hts hiX2 hown hK hP 3 rfl rfl 5 (by decide) hf83 (fun _ h9 => h9) rfl dX4_run_44 ?_
  exact greti hx hb hr hlocks hP hD hS (rfl) (rfl) dX4_run_47

set_option maxHeartbeats 4000000 in
set_option maxRecDepth 100000 in
theorem c_X4_append (l : Launch) (E : EE) (Xp : Nat) (Cp : Nat → Nat) (sz nw : Int32) (pf : Nat → Int32) (Bp : Nat → Nat) (g z : Nat → Int32) (lo up pk : Int32) (Tp : Nat → Nat) (g2 z2 : Nat → Int32) (lo2 up2 pk2 : Int32) (Rp : Nat → Nat) (ln : Int32) (cd : Nat → Int32) (v1 : Int32) (L : Nat) (hv3 : ¬ v1 < 33) (hv6 : ¬ 126 < v1) (hL : ln = nI L) (hL5 : L < 50) : GM l yX4_append wsX4_append 1 21 E (wO Xp Bp Tp Cp Rp ++ (wH E Cp sz nw pf ++ (wP E Bp g z lo up pk ++ (wP E Tp g2 z2 lo2 up2 pk2 ++ (wR E Rp ln cd))))) [.ref Xp, .int v1] (wO Xp Bp Tp Cp Rp ++ (wH E Cp sz nw pf ++ (wP E Bp g z lo up pk ++ (wP E Tp g2 z2 lo2 up2 pk2 ++ (wR E Rp (ln + 1) (upd cd L v1)))))) (some (.int (ln + 1))) := by
  intro sz
  refine Met.ofW (cc := cX4_append) (maxL := 2) (ret := (some .int)) (by decide) rfl ?_
  intro p e s m args below meth c s₁ B hml hv
  obtain ⟨rfl, rfl, hP, hK, hD0, hN⟩ := hv
  have hx := B.exec
  have hb := B.bytes
  have hr := B.returns
  have hts := atoms_spec (ws := wsX4_append) B.pre
  have hown : s.vm.findClass RX4 = some m.cls := findClass_of_methodNamed B.named
  have hlocks := B.notSynchronized
  have hD := hD0.self (sz := s.heap.size)
  have hA : ∀ q : Nat, s.heap.size ≤ q → va_A (wO Xp Bp Tp Cp Rp ++ (wH E Cp sz nw pf ++ (wP E Bp g z lo up pk ++ (wP E Tp g2 z2 lo2 up2 pk2 ++ (wR E Rp ln cd))))) s.heap.size q := fun q h => Or.inr h
  have hS : va_S (va_A (wO Xp Bp Tp Cp Rp ++ (wH E Cp sz nw pf ++ (wP E Bp g z lo up pk ++ (wP E Tp g2 z2 lo2 up2 pk2 ++ (wR E Rp ln cd))))) s.heap.size) s.heap s.heap [] := va_S.rf
  have hl := lv_entry ([.ref Xp, .int v1]) (n := 2) (Nat.le_of_ble_eq_true rfl)
  rw [lg_entry_eq]
  generalize (lg_sl ([.ref Xp, .int v1]) ++ List.replicate (2 - (lg_sl ([.ref Xp, .int v1])).length) Slot.unset).toArray = ls at hl ⊢
  have hl : lv_has ls 2 [(0, .ref Xp), (1, .int v1)] := hl
  have hf112 := hts (.fieldLink RX4 112 "PhaseConverter$Program" "length" "I") (List.mem_of_getElem? (i := 6) rfl)
  have hf31 := hts (.fieldLink RX4 31 "PhaseConverter" "program" "LPhaseConverter$Program;") (List.mem_of_getElem? (i := 5) rfl)
  have hiX3 : ∀ w ∈ u_ws RX3 TX3 2, w ∈ wsX4_append := memIn [18, 19] rfl
  have hiX4 : ∀ w ∈ u_ws RX4 TX4 4, w ∈ wsX4_append := memIn [14, 15, 16, 17] rfl
  have hlt : ln < 50 := by rw [hL]; exact nI_lt (b := 50) hL5 (by omega)
  refine lv_iload_n hx hb dX4_append_0 rfl (lv_at hl 1 rfl) ?_
  refine lv_bipush (v := 33) hx hb dX4_append_1 (by decide) ?_
  refine lv_icmp_lt (tgt := 12) hx hb dX4_append_3 (by decide) (fun c_3 => absurd c_3 hv3) (fun c_3 => ?_)
  refine lv_iload_n hx hb dX4_append_6 rfl (lv_at hl 1 rfl) ?_
  refine lv_bipush (v := 126) hx hb dX4_append_7 (by decide) ?_
  refine lv_icmp_le (tgt := 22) hx hb dX4_append_9 (by decide) (fun c_9 => ?_) (fun c_9 => absurd (Int32.not_lt.mp hv6) c_9)
  refine lv_aload_n hx hb dX4_append_22 rfl (lv_at hl 0 rfl) ?_
  refine va_get (D := E.1) (ci := 4) (v := .ref (Rp 0)) (C := RX4) (T := TX4) (N := 4) hx hb hts hiX4 hown hK hP 0 rfl rfl 3 (by decide) hf31 (fun _ h9 => h9) rfl dX4_append_23 ?_
  refine lv_iload_n hx hb dX4_append_26 rfl (lv_at hl 1 rfl) ?_
  refine gvMi (wO Xp Bp Tp Cp Rp ++ (wH E Cp sz nw pf ++ (wP E Bp g z lo up pk ++ (wP E Tp g2 z2 lo2 up2 pk2)))) ([] : va_W) (As := [.int v1]) (rest := []) ⟨hx, hb, hml, hown, hts⟩ (c_X3_take l E Rp ln cd v1 L hL (by omega)) (cwV 1 hts gX4_append_X3_take rfl rfl rfl (by decide +kernel) ⟨Nat.le_of_ble_eq_true rfl, Nat.le_of_ble_eq_true rfl⟩) (va_recv hK hP (ci := 3) (q0 := 17) rfl rfl) hP hK hD hN hS hA rfl hl.1 rfl (Nat.le_of_ble_eq_true rfl) dX4_append_27 ⟨Nat.le_refl _, Nat.le_refl _⟩ (fun H locs hP hD hS => ?_)
  have hP : va_P E.1 vwCl (wO Xp Bp Tp Cp Rp ++ (wH E Cp sz nw pf ++ (wP E Bp g z lo up pk ++ (wP E Tp g2 z2 lo2 up2 pk2 ++ (wR E Rp (if ln < 50 then ln + 1 else ln) (if ln < 50 then upd cd L v1 else cd)))))) H := hP
  have hD : va_D _ (wO Xp Bp Tp Cp Rp ++ (wH E Cp sz nw pf ++ (wP E Bp g z lo up pk ++ (wP E Tp g2 z2 lo2 up2 pk2 ++ (wR E Rp (if ln < 50 then ln + 1 else ln) (if ln < 50 then upd cd L v1 else cd)))))) := hD
  refine lv_if_ne (tgt := 43) hx hb dX4_append_30 (by decide) (fun c_30 => ?_) (fun c_30 => absurd c_30 (by rw [if_pos hlt]; decide))
  refine lv_aload_n hx hb dX4_append_43 rfl (lv_at hl 0 rfl) ?_
  refine va_get (D := E.1) (ci := 4) (v := .ref (Rp 0)) (C := RX4) (T := TX4) (N := 4) hx hb hts hiX4 hown hK hP 0 rfl rfl 3 (by decide) hf31 (fun _ h9 => h9) rfl dX4_append_44 ?_
  refine va_get (D := E.1) (ci := 3) (v := .int (if ln < 50 then ln + 1 else ln)) (C := RX3) (T := TX3) (N := 2) hx hb hts hiX3 hown hK hP 17 rfl rfl 1 (by decide) hf112 (fun _ h9 => h9) rfl dX4_append_47 ?_
  exact greti hx hb hr hlocks hP hD hS (if_pos hlt) (by rw [if_pos hlt, if_pos hlt]) dX4_append_50

set_option maxHeartbeats 4000000 in
set_option maxRecDepth 100000 in
theorem c_X4_count (l : Launch) (E : EE) (Xp : Nat) (Cp : Nat → Nat) (sz nw : Int32) (pf : Nat → Int32) (Bp : Nat → Nat) (g z : Nat → Int32) (lo up pk : Int32) (Tp : Nat → Nat) (g2 z2 : Nat → Int32) (lo2 up2 pk2 : Int32) (Rp : Nat → Nat) (ln : Int32) (cd : Nat → Int32) (k0 : Nat) (hz : zOK z) (hk : k0 < 15) : GM l yX4_count wsX4_count 3 64 E (wO Xp Bp Tp Cp Rp ++ (wH E Cp sz nw pf ++ (wP E Bp g z lo up pk ++ (wP E Tp g2 z2 lo2 up2 pk2 ++ (wR E Rp ln cd))))) [.ref Xp, .int (nI k0)] (wO Xp Bp Tp Cp Rp ++ (wH E Cp sz nw pf ++ (wP E Bp g z lo up pk ++ (wP E Tp g2 z2 lo2 up2 pk2 ++ (wR E Rp ln cd))))) (some (.int (nuX k0 sz z lo up pk))) := by
  intro sz
  refine Met.ofW (cc := cX4_count) (maxL := 2) (ret := (some .int)) (by decide) rfl ?_
  intro p e s m args below meth c s₁ B hml hv
  obtain ⟨rfl, rfl, hP, hK, hD0, hN⟩ := hv
  have hx := B.exec
  have hb := B.bytes
  have hr := B.returns
  have hts := atoms_spec (ws := wsX4_count) B.pre
  have hown : s.vm.findClass RX4 = some m.cls := findClass_of_methodNamed B.named
  have hlocks := B.notSynchronized
  have hD := hD0.self (sz := s.heap.size)
  have hA : ∀ q : Nat, s.heap.size ≤ q → va_A (wO Xp Bp Tp Cp Rp ++ (wH E Cp sz nw pf ++ (wP E Bp g z lo up pk ++ (wP E Tp g2 z2 lo2 up2 pk2 ++ (wR E Rp ln cd))))) s.heap.size q := fun q h => Or.inr h
  have hS : va_S (va_A (wO Xp Bp Tp Cp Rp ++ (wH E Cp sz nw pf ++ (wP E Bp g z lo up pk ++ (wP E Tp g2 z2 lo2 up2 pk2 ++ (wR E Rp ln cd))))) s.heap.size) s.heap s.heap [] := va_S.rf
  have hl := lv_entry ([.ref Xp, .int (nI k0)]) (n := 2) (Nat.le_of_ble_eq_true rfl)
  rw [lg_entry_eq]
  generalize (lg_sl ([.ref Xp, .int (nI k0)]) ++ List.replicate (2 - (lg_sl ([.ref Xp, .int (nI k0)])).length) Slot.unset).toArray = ls at hl ⊢
  have hl : lv_has ls 2 [(0, .ref Xp), (1, .int (nI k0))] := hl
  refine lv_iload_n hx hb dX4_count_0 rfl (lv_at hl 1 rfl) ?_
  refine lv_if_lt (tgt := 10) hx hb dX4_count_1 (by decide) (fun c_1 => absurd c_1 (nI_pos (by omega))) (fun c_1 => ?_)
  refine lv_iload_n hx hb dX4_count_4 rfl (lv_at hl 1 rfl) ?_
  refine lv_bipush (v := 15) hx hb dX4_count_5 (by decide) ?_
  refine lv_icmp_lt (tgt := 20) hx hb dX4_count_7 (by decide) (fun c_7 => ?_) (fun c_7 => absurd (nI_lt (b := 15) (by omega) (by omega)) c_7)
  refine lv_aload_n hx hb dX4_count_20 rfl (lv_at hl 0 rfl) ?_
  refine lv_iload_n hx hb dX4_count_21 rfl (lv_at hl 1 rfl) ?_
  refine gv0i (As := [.int (nI k0)]) (rest := []) ⟨hx, hb, hml, hown, hts⟩ (c_X4_number l E Xp Cp sz nw pf Bp g z lo up pk Tp g2 z2 lo2 up2 pk2 Rp ln cd k0 hz (by omega)) (cwV 1 hts gX4_count_X4_number rfl rfl rfl (by decide +kernel) ⟨Nat.le_of_ble_eq_true rfl, Nat.le_of_ble_eq_true rfl⟩) (va_recv hK hP (ci := 4) (q0 := 0) rfl rfl) hP hK hD hN hS hA rfl hl.1 rfl (Nat.le_of_ble_eq_true rfl) dX4_count_22 ⟨Nat.le_refl _, Nat.le_refl _⟩ (fun H locs hP hD hS => ?_)
  have hP : va_P E.1 vwCl (wO Xp Bp Tp Cp Rp ++ (wH E Cp sz nw pf ++ (wP E Bp g z lo up pk ++ (wP E Tp g2 z2 lo2 up2 pk2 ++ (wR E Rp ln cd))))) H := hP
  have hD : va_D _ (wO Xp Bp Tp Cp Rp ++ (wH E Cp sz nw pf ++ (wP E Bp g z lo up pk ++ (wP E Tp g2 z2 lo2 up2 pk2 ++ (wR E Rp ln cd))))) := hD
  exact greti hx hb hr hlocks hP hD hS (rfl) (rfl) dX4_count_25

set_option maxHeartbeats 4000000 in
set_option maxRecDepth 100000 in
theorem c_X4_phase (l : Launch) (E : EE) (Xp : Nat) (Cp : Nat → Nat) (sz nw : Int32) (pf : Nat → Int32) (Bp : Nat → Nat) (g z : Nat → Int32) (lo up pk : Int32) (Tp : Nat → Nat) (g2 z2 : Nat → Int32) (lo2 up2 pk2 : Int32) (Rp : Nat → Nat) (ln : Int32) (cd : Nat → Int32) (k0 j0 : Nat) (hz : zOK z) (hk : k0 < nOf z) (hj : j0 < 7) : GM l yX4_phase wsX4_phase 1 21 E (wO Xp Bp Tp Cp Rp ++ (wH E Cp sz nw pf ++ (wP E Bp g z lo up pk ++ (wP E Tp g2 z2 lo2 up2 pk2 ++ (wR E Rp ln cd))))) [.ref Xp, .int (nI k0), .int (nI j0)] (wO Xp Bp Tp Cp Rp ++ (wH E Cp sz nw pf ++ (wP E Bp g z lo up pk ++ (wP E Tp g2 z2 lo2 up2 pk2 ++ (wR E Rp ln cd))))) (some (.int (z (35 + 7 * k0 + j0)))) := by
  intro sz
  refine Met.ofW (cc := cX4_phase) (maxL := 3) (ret := (some .int)) (by decide) rfl ?_
  intro p e s m args below meth c s₁ B hml hv
  obtain ⟨rfl, rfl, hP, hK, hD0, hN⟩ := hv
  have hx := B.exec
  have hb := B.bytes
  have hr := B.returns
  have hts := atoms_spec (ws := wsX4_phase) B.pre
  have hown : s.vm.findClass RX4 = some m.cls := findClass_of_methodNamed B.named
  have hlocks := B.notSynchronized
  have hD := hD0.self (sz := s.heap.size)
  have hA : ∀ q : Nat, s.heap.size ≤ q → va_A (wO Xp Bp Tp Cp Rp ++ (wH E Cp sz nw pf ++ (wP E Bp g z lo up pk ++ (wP E Tp g2 z2 lo2 up2 pk2 ++ (wR E Rp ln cd))))) s.heap.size q := fun q h => Or.inr h
  have hS : va_S (va_A (wO Xp Bp Tp Cp Rp ++ (wH E Cp sz nw pf ++ (wP E Bp g z lo up pk ++ (wP E Tp g2 z2 lo2 up2 pk2 ++ (wR E Rp ln cd))))) s.heap.size) s.heap s.heap [] := va_S.rf
  have hl := lv_entry ([.ref Xp, .int (nI k0), .int (nI j0)]) (n := 3) (Nat.le_of_ble_eq_true rfl)
  rw [lg_entry_eq]
  generalize (lg_sl ([.ref Xp, .int (nI k0), .int (nI j0)]) ++ List.replicate (3 - (lg_sl ([.ref Xp, .int (nI k0), .int (nI j0)])).length) Slot.unset).toArray = ls at hl ⊢
  have hl : lv_has ls 3 [(0, .ref Xp), (1, .int (nI k0)), (2, .int (nI j0))] := hl
  have hf14 := hts (.fieldLink RX4 14 "PhaseConverter" "plant" "LPhaseConverter$Plant;") (List.mem_of_getElem? (i := 5) rfl)
  have hf143 := hts (.fieldLink RX4 143 "PhaseConverter$Plant" "phases" "[LPhaseConverter$Phase;") (List.mem_of_getElem? (i := 7) rfl)
  have hf42 := hts (.fieldLink RX4 42 "PhaseConverter$Plant" "phaseCount" "I") (List.mem_of_getElem? (i := 6) rfl)
  have hiX2 : ∀ w ∈ u_ws RX2 TX2 17, w ∈ wsX4_phase := memIn [24, 25, 26, 27, 28, 29, 30, 31, 32, 33, 34, 35, 36, 37, 38, 39, 40] rfl
  have hiX4 : ∀ w ∈ u_ws RX4 TX4 4, w ∈ wsX4_phase := memIn [20, 21, 22, 23] rfl
  have hn4 := hz.2.2.1
  refine lv_iload_n hx hb dX4_phase_0 rfl (lv_at hl 1 rfl) ?_
  refine lv_if_lt (tgt := 27) hx hb dX4_phase_1 (by decide) (fun c_1 => absurd c_1 (nI_pos (by omega))) (fun c_1 => ?_)
  refine lv_iload_n hx hb dX4_phase_4 rfl (lv_at hl 1 rfl) ?_
  refine lv_aload_n hx hb dX4_phase_5 rfl (lv_at hl 0 rfl) ?_
  refine va_get (D := E.1) (ci := 4) (v := .ref (Bp 0)) (C := RX4) (T := TX4) (N := 4) hx hb hts hiX4 hown hK hP 0 rfl rfl 0 (by decide) hf14 (fun _ h9 => h9) rfl dX4_phase_6 ?_
  refine va_get (D := E.1) (ci := 2) (v := .int (z 15)) (C := RX2) (T := TX2) (N := 17) hx hb hts hiX2 hown hK hP 3 rfl rfl 2 (by decide) hf42 (fun _ h9 => h9) rfl dX4_phase_9 ?_
  refine lv_icmp_ge (tgt := 27) hx hb dX4_phase_12 (by decide) (fun c_12 => absurd c_12 (by rw [hz.1]; exact nI_ge (by omega) (by omega))) (fun c_12 => ?_)
  refine lv_iload_n hx hb dX4_phase_15 rfl (lv_at hl 1 rfl) ?_
  refine lv_aload_n hx hb dX4_phase_16 rfl (lv_at hl 0 rfl) ?_
  refine va_get (D := E.1) (ci := 4) (v := .ref (Bp 0)) (C := RX4) (T := TX4) (N := 4) hx hb hts hiX4 hown hK hP 0 rfl rfl 0 (by decide) hf14 (fun _ h9 => h9) rfl dX4_phase_17 ?_
  refine va_get (D := E.1) (ci := 2) (v := .ref (Bp 2)) (C := RX2) (T := TX2) (N := 17) hx hb hts hiX2 hown hK hP 3 rfl rfl 1 (by decide) hf143 (fun _ h9 => h9) rfl dX4_phase_20 ?_
  refine va_alen hx hb hK hP 5 1 rfl rfl (v := 4) rfl dX4_phase_23 ?_
  refine lv_icmp_lt (tgt := 37) hx hb dX4_phase_24 (by decide) (fun c_24 => ?_) (fun c_24 => absurd (nI_lt (b := 4) (by omega) (by omega)) c_24)
  refine lv_iload_n hx hb dX4_phase_37 rfl (lv_at hl 2 rfl) ?_
  refine lv_if_lt (tgt := 47) hx hb dX4_phase_38 (by decide) (fun c_38 => absurd c_38 (nI_pos (by omega))) (fun c_38 => ?_)
  refine lv_iload_n hx hb dX4_phase_41 rfl (lv_at hl 2 rfl) ?_
  refine lv_bipush (v := 7) hx hb dX4_phase_42 (by decide) ?_
  refine lv_icmp_lt (tgt := 57) hx hb dX4_phase_44 (by decide) (fun c_44 => ?_) (fun c_44 => absurd (nI_lt (b := 7) (by omega) (by omega)) c_44)
  refine lv_aload_n hx hb dX4_phase_57 rfl (lv_at hl 0 rfl) ?_
  refine va_get (D := E.1) (ci := 4) (v := .ref (Bp 0)) (C := RX4) (T := TX4) (N := 4) hx hb hts hiX4 hown hK hP 0 rfl rfl 0 (by decide) hf14 (fun _ h9 => h9) rfl dX4_phase_58 ?_
  refine va_get (D := E.1) (ci := 2) (v := .ref (Bp 2)) (C := RX2) (T := TX2) (N := 17) hx hb hts hiX2 hown hK hP 3 rfl rfl 1 (by decide) hf143 (fun _ h9 => h9) rfl dX4_phase_61 ?_
  refine lv_iload_n hx hb dX4_phase_64 rfl (lv_at hl 1 rfl) ?_
  refine galdq (b := Bp (3 + k0)) hx hb hK hP 5 rfl k0 (rfl) (by omega) (by decide) rfl dX4_phase_65 ?_
  refine lv_iload_n hx hb dX4_phase_66 rfl (lv_at hl 2 rfl) ?_
  refine gvKi (3 + (3 + k0)) (As := [.int (nI j0)]) (rest := []) ⟨hx, hb, hml, hown, hts⟩ (c_X1_property l E (Bp (3 + k0)) (fun j => z (35 + 7 * k0 + j)) j0 (by omega)) (cwV 1 hts gX4_phase_X1_property rfl rfl rfl (by decide +kernel) ⟨Nat.le_of_ble_eq_true rfl, Nat.le_of_ble_eq_true rfl⟩) (va_recv hK hP (ci := 1) (q0 := (3 + (3 + k0))) rfl (gat3 (X := (wO Xp Bp Tp Cp Rp ++ (wH E Cp sz nw pf))) (wc := (wP E Bp g z lo up pk)) (Y := (wP E Tp g2 z2 lo2 up2 pk2 ++ (wR E Rp ln cd))) (wP_at (k := k0) (by omega)))) hP hK hD hN hS hA (gat3 (X := (wO Xp Bp Tp Cp Rp ++ (wH E Cp sz nw pf))) (wc := (wP E Bp g z lo up pk)) (Y := (wP E Tp g2 z2 lo2 up2 pk2 ++ (wR E Rp ln cd))) (wP_at (k := k0) (by omega))) rfl hl.1 rfl (Nat.le_of_ble_eq_true rfl) dX4_phase_67 ⟨Nat.le_refl _, Nat.le_refl _⟩ (fun H locs hP hD hS => ?_)
  have hP : va_P E.1 vwCl (wO Xp Bp Tp Cp Rp ++ (wH E Cp sz nw pf ++ (wP E Bp g z lo up pk ++ (wP E Tp g2 z2 lo2 up2 pk2 ++ (wR E Rp ln cd))))) H := Eq.mp (congrArg (fun w => va_P E.1 vwCl w H) (gset_same (k := 3 + (3 + k0)) (gat3 (X := (wO Xp Bp Tp Cp Rp ++ (wH E Cp sz nw pf))) (wc := (wP E Bp g z lo up pk)) (Y := (wP E Tp g2 z2 lo2 up2 pk2 ++ (wR E Rp ln cd))) (wP_at (k := k0) (by omega))))) hP
  have hD : va_D (va_A (wO Xp Bp Tp Cp Rp ++ (wH E Cp sz nw pf ++ (wP E Bp g z lo up pk ++ (wP E Tp g2 z2 lo2 up2 pk2 ++ (wR E Rp ln cd))))) s.heap.size) (wO Xp Bp Tp Cp Rp ++ (wH E Cp sz nw pf ++ (wP E Bp g z lo up pk ++ (wP E Tp g2 z2 lo2 up2 pk2 ++ (wR E Rp ln cd))))) := Eq.mp (congrArg (fun w => va_D (va_A (wO Xp Bp Tp Cp Rp ++ (wH E Cp sz nw pf ++ (wP E Bp g z lo up pk ++ (wP E Tp g2 z2 lo2 up2 pk2 ++ (wR E Rp ln cd))))) s.heap.size) w) (gset_same (k := 3 + (3 + k0)) (gat3 (X := (wO Xp Bp Tp Cp Rp ++ (wH E Cp sz nw pf))) (wc := (wP E Bp g z lo up pk)) (Y := (wP E Tp g2 z2 lo2 up2 pk2 ++ (wR E Rp ln cd))) (wP_at (k := k0) (by omega))))) hD
  exact greti hx hb hr hlocks hP hD hS (rfl) (rfl) dX4_phase_70

set_option maxHeartbeats 4000000 in
set_option maxRecDepth 100000 in
theorem c_X4_record (l : Launch) (E : EE) (Xp : Nat) (Cp : Nat → Nat) (sz nw : Int32) (pf : Nat → Int32) (Bp : Nat → Nat) (g z : Nat → Int32) (lo up pk : Int32) (Tp : Nat → Nat) (g2 z2 : Nat → Int32) (lo2 up2 pk2 : Int32) (Rp : Nat → Nat) (ln : Int32) (cd : Nat → Int32) (i0 j0 : Nat) (hrk : rOK sz nw) (hi : i0 < sz.toNatClampNeg) (hj : j0 < 6) : GM l yX4_record wsX4_record 1 24 E (wO Xp Bp Tp Cp Rp ++ (wH E Cp sz nw pf ++ (wP E Bp g z lo up pk ++ (wP E Tp g2 z2 lo2 up2 pk2 ++ (wR E Rp ln cd))))) [.ref Xp, .int (nI i0), .int (nI j0)] (wO Xp Bp Tp Cp Rp ++ (wH E Cp sz nw pf ++ (wP E Bp g z lo up pk ++ (wP E Tp g2 z2 lo2 up2 pk2 ++ (wR E Rp ln cd))))) (some (.int (pf ((nw.toNatClampNeg + 16 - i0) % 16 * 6 + j0)))) := by
  intro sz
  refine Met.ofW (cc := cX4_record) (maxL := 3) (ret := (some .int)) (by decide) rfl ?_
  intro p e s m args below meth c s₁ B hml hv
  obtain ⟨rfl, rfl, hP, hK, hD0, hN⟩ := hv
  have hx := B.exec
  have hb := B.bytes
  have hr := B.returns
  have hts := atoms_spec (ws := wsX4_record) B.pre
  have hown : s.vm.findClass RX4 = some m.cls := findClass_of_methodNamed B.named
  have hlocks := B.notSynchronized
  have hD := hD0.self (sz := s.heap.size)
  have hA : ∀ q : Nat, s.heap.size ≤ q → va_A (wO Xp Bp Tp Cp Rp ++ (wH E Cp sz nw pf ++ (wP E Bp g z lo up pk ++ (wP E Tp g2 z2 lo2 up2 pk2 ++ (wR E Rp ln cd))))) s.heap.size q := fun q h => Or.inr h
  have hS : va_S (va_A (wO Xp Bp Tp Cp Rp ++ (wH E Cp sz nw pf ++ (wP E Bp g z lo up pk ++ (wP E Tp g2 z2 lo2 up2 pk2 ++ (wR E Rp ln cd))))) s.heap.size) s.heap s.heap [] := va_S.rf
  have hl := lv_entry ([.ref Xp, .int (nI i0), .int (nI j0)]) (n := 3) (Nat.le_of_ble_eq_true rfl)
  rw [lg_entry_eq]
  generalize (lg_sl ([.ref Xp, .int (nI i0), .int (nI j0)]) ++ List.replicate (3 - (lg_sl ([.ref Xp, .int (nI i0), .int (nI j0)])).length) Slot.unset).toArray = ls at hl ⊢
  have hl : lv_has ls 3 [(0, .ref Xp), (1, .int (nI i0)), (2, .int (nI j0))] := hl
  have hf156 := hts (.fieldLink RX4 156 "PhaseConverter$History" "size" "I") (List.mem_of_getElem? (i := 6) rfl)
  have hf24 := hts (.fieldLink RX4 24 "PhaseConverter" "history" "LPhaseConverter$History;") (List.mem_of_getElem? (i := 5) rfl)
  have hiX0 : ∀ w ∈ u_ws RX0 TX0 3, w ∈ wsX4_record := memIn [18, 19, 20] rfl
  have hiX4 : ∀ w ∈ u_ws RX4 TX4 4, w ∈ wsX4_record := memIn [14, 15, 16, 17] rfl
  have hs6 := hrk.2.2.2
  refine lv_iload_n hx hb dX4_record_0 rfl (lv_at hl 1 rfl) ?_
  refine lv_if_lt (tgt := 15) hx hb dX4_record_1 (by decide) (fun c_1 => absurd c_1 (nI_pos (by omega))) (fun c_1 => ?_)
  refine lv_iload_n hx hb dX4_record_4 rfl (lv_at hl 1 rfl) ?_
  refine lv_aload_n hx hb dX4_record_5 rfl (lv_at hl 0 rfl) ?_
  refine va_get (D := E.1) (ci := 4) (v := .ref (Cp 0)) (C := RX4) (T := TX4) (N := 4) hx hb hts hiX4 hown hK hP 0 rfl rfl 2 (by decide) hf24 (fun _ h9 => h9) rfl dX4_record_6 ?_
  refine va_get (D := E.1) (ci := 0) (v := .int sz) (C := RX0) (T := TX0) (N := 3) hx hb hts hiX0 hown hK hP 1 rfl rfl 1 (by decide) hf156 (fun _ h9 => h9) rfl dX4_record_9 ?_
  refine lv_icmp_lt (tgt := 25) hx hb dX4_record_12 (by decide) (fun c_12 => ?_) (fun c_12 => absurd (by rw [hrk.2.2.1]; exact nI_lt (by omega) (by omega)) c_12)
  refine lv_iload_n hx hb dX4_record_25 rfl (lv_at hl 2 rfl) ?_
  refine lv_if_lt (tgt := 35) hx hb dX4_record_26 (by decide) (fun c_26 => absurd c_26 (nI_pos (by omega))) (fun c_26 => ?_)
  refine lv_iload_n hx hb dX4_record_29 rfl (lv_at hl 2 rfl) ?_
  refine lv_bipush (v := 6) hx hb dX4_record_30 (by decide) ?_
  refine lv_icmp_lt (tgt := 45) hx hb dX4_record_32 (by decide) (fun c_32 => ?_) (fun c_32 => absurd (nI_lt (b := 6) (by omega) (by omega)) c_32)
  refine lv_aload_n hx hb dX4_record_45 rfl (lv_at hl 0 rfl) ?_
  refine va_get (D := E.1) (ci := 4) (v := .ref (Cp 0)) (C := RX4) (T := TX4) (N := 4) hx hb hts hiX4 hown hK hP 0 rfl rfl 2 (by decide) hf24 (fun _ h9 => h9) rfl dX4_record_46 ?_
  refine lv_iload_n hx hb dX4_record_49 rfl (lv_at hl 1 rfl) ?_
  refine lv_iload_n hx hb dX4_record_50 rfl (lv_at hl 2 rfl) ?_
  refine gvMi (wO Xp Bp Tp Cp Rp) (wP E Bp g z lo up pk ++ (wP E Tp g2 z2 lo2 up2 pk2 ++ (wR E Rp ln cd))) (As := [.int (nI i0), .int (nI j0)]) (rest := []) ⟨hx, hb, hml, hown, hts⟩ (c_X0_part l E Cp sz nw pf nw.toNatClampNeg i0 j0 hrk.1 hrk.2.1 (by omega) (by omega)) (cwV 2 hts gX4_record_X0_part rfl rfl rfl (by decide +kernel) ⟨Nat.le_of_ble_eq_true rfl, Nat.le_of_ble_eq_true rfl⟩) (va_recv hK hP (ci := 0) (q0 := 1) rfl rfl) hP hK hD hN hS hA rfl hl.1 rfl (Nat.le_of_ble_eq_true rfl) dX4_record_51 ⟨Nat.le_refl _, Nat.le_refl _⟩ (fun H locs hP hD hS => ?_)
  have hP : va_P E.1 vwCl (wO Xp Bp Tp Cp Rp ++ (wH E Cp sz nw pf ++ (wP E Bp g z lo up pk ++ (wP E Tp g2 z2 lo2 up2 pk2 ++ (wR E Rp ln cd))))) H := hP
  have hD : va_D _ (wO Xp Bp Tp Cp Rp ++ (wH E Cp sz nw pf ++ (wP E Bp g z lo up pk ++ (wP E Tp g2 z2 lo2 up2 pk2 ++ (wR E Rp ln cd))))) := hD
  exact greti hx hb hr hlocks hP hD hS (rfl) (rfl) dX4_record_54
