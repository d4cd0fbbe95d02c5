set_option maxHeartbeats 4000000 in
set_option maxRecDepth 100000 in
theorem c_X4_holdsLevel (l : Launch) (E : EE) (Xp : Nat) (Cp : Nat → Nat) (sz nw : Int32) (pf : Nat → Int32) (Bp : Nat → Nat) (g z : Nat → Int32) (lo up pk : Int32) (Tp : Nat → Nat) (g2 z2 : Nat → Int32) (lo2 up2 pk2 : Int32) (Rp : Nat → Nat) (ln : Int32) (cd : Nat → Int32) (v1 v2 : Int32) (hg : ∀ k, k < 15 → g k = z k) (hz : zOK z) (hZ : zZ z) : GM l yX4_holdsLevel wsX4_holdsLevel 4 91 E (wO Xp Bp Tp Cp Rp ++ (wH E Cp sz nw pf ++ (wP E Bp g z lo up pk ++ (wP E Tp g2 z2 lo2 up2 pk2 ++ (wR E Rp ln cd))))) [.ref Xp, .int v1, .int v2] (wO Xp Bp Tp Cp Rp ++ (wH E Cp sz nw pf ++ (wP E Bp g z lo up pk ++ (wP E Tp (upd (va_cpy g g2 0 0 15) 2 v1) (((hoC v1 v2 (z, lo, up, pk)).2).1) (((hoC v1 v2 (z, lo, up, pk)).2).2.1) (((hoC v1 v2 (z, lo, up, pk)).2).2.2.1) (((hoC v1 v2 (z, lo, up, pk)).2).2.2.2) ++ (wR E Rp ln cd))))) (some (.int (hoC v1 v2 (z, lo, up, pk)).1)) := by
  intro sz
  refine Met.ofW (cc := cX4_holdsLevel) (maxL := 4) (ret := (some .boolean)) (by decide) rfl ?_
  intro p e s m args below meth c s₁ B hml hv
  obtain ⟨rfl, rfl, hP, hK, hD0, hN⟩ := hv
  have hx := B.exec
  have hb := B.bytes
  have hr := B.returns
  have hts := atoms_spec (ws := wsX4_holdsLevel) B.pre
  have hown : s.vm.findClass RX4 = some m.cls := findClass_of_methodNamed B.named
  have hlocks := B.notSynchronized
  have hD := hD0.self (sz := s.heap.size)
  have hA : ∀ q : Nat, s.heap.size ≤ q → va_A (wO Xp Bp Tp Cp Rp ++ (wH E Cp sz nw pf ++ (wP E Bp g z lo up pk ++ (wP E Tp g2 z2 lo2 up2 pk2 ++ (wR E Rp ln cd))))) s.heap.size q := fun q h => Or.inr h
  have hS : va_S (va_A (wO Xp Bp Tp Cp Rp ++ (wH E Cp sz nw pf ++ (wP E Bp g z lo up pk ++ (wP E Tp g2 z2 lo2 up2 pk2 ++ (wR E Rp ln cd))))) s.heap.size) s.heap s.heap [] := va_S.rf
  have hl := lv_entry ([.ref Xp, .int v1, .int v2]) (n := 4) (Nat.le_of_ble_eq_true rfl)
  rw [lg_entry_eq]
  generalize (lg_sl ([.ref Xp, .int v1, .int v2]) ++ List.replicate (4 - (lg_sl ([.ref Xp, .int v1, .int v2])).length) Slot.unset).toArray = ls at hl ⊢
  have hl : lv_has ls 4 [(0, .ref Xp), (1, .int v1), (2, .int v2)] := hl
  have hf179 := hts (.fieldLink RX4 179 "PhaseConverter$Plant" "leastVoltage" "I") (List.mem_of_getElem? (i := 3) rfl)
  have hf18 := hts (.fieldLink RX4 18 "PhaseConverter" "trial" "LPhaseConverter$Plant;") (List.mem_of_getElem? (i := 1) rfl)
  have hf67 := hts (.fieldLink RX4 67 "PhaseConverter$Plant" "settings" "[I") (List.mem_of_getElem? (i := 2) rfl)
  have hiX2 : ∀ w ∈ u_ws RX2 TX2 17, w ∈ wsX4_holdsLevel := memIn [128, 129, 130, 131, 132, 133, 134, 135, 136, 137, 138, 139, 140, 141, 142, 143, 144] rfl
  have hiX4 : ∀ w ∈ u_ws RX4 TX4 4, w ∈ wsX4_holdsLevel := memIn [124, 125, 126, 127] rfl
  refine lv_aload_n hx hb dX4_holdsLevel_0 rfl (lv_at hl 0 rfl) ?_
  refine gv0v (As := []) (rest := []) ⟨hx, hb, hml, hown, hts⟩ (c_X4_beginTrial l E Xp Cp sz nw pf Bp g z lo up pk Tp g2 z2 lo2 up2 pk2 Rp ln cd) (cwV 0 hts gX4_holdsLevel_X4_beginTrial rfl rfl rfl (by decide +kernel) ⟨Nat.le_of_ble_eq_true rfl, Nat.le_of_ble_eq_true rfl⟩) (va_recv hK hP (ci := 4) (q0 := 0) rfl rfl) hP hK hD hN hS hA rfl hl.1 rfl (Nat.le_of_ble_eq_true rfl) dX4_holdsLevel_1 ⟨Nat.le_refl _, Nat.le_refl _⟩ (fun H locs hP hD hS => ?_)
  have hP : va_P E.1 vwCl (wO Xp Bp Tp Cp Rp ++ (wH E Cp sz nw pf ++ (wP E Bp g z lo up pk ++ (wP E Tp (va_cpy g g2 0 0 15) z lo up pk ++ (wR E Rp ln cd))))) H := hP
  have hD : va_D _ (wO Xp Bp Tp Cp Rp ++ (wH E Cp sz nw pf ++ (wP E Bp g z lo up pk ++ (wP E Tp (va_cpy g g2 0 0 15) z lo up pk ++ (wR E Rp ln cd))))) := hD
  refine lv_aload_n hx hb dX4_holdsLevel_4 rfl (lv_at hl 0 rfl) ?_
  refine va_get (D := E.1) (ci := 4) (v := .ref (Tp 0)) (C := RX4) (T := TX4) (N := 4) hx hb hts hiX4 hown hK hP 0 rfl rfl 1 (by decide) hf18 (fun _ h9 => h9) rfl dX4_holdsLevel_5 ?_
  refine va_get (D := E.1) (ci := 2) (v := .ref (Tp 1)) (C := RX2) (T := TX2) (N := 17) hx hb hts hiX2 hown hK hP 10 rfl rfl 0 (by decide) hf67 (fun _ h9 => h9) rfl dX4_holdsLevel_8 ?_
  refine lv_iconst (v := 2) hx hb dX4_holdsLevel_11 (by decide) ?_
  refine lv_iload_n hx hb dX4_holdsLevel_12 rfl (lv_at hl 1 rfl) ?_
  refine gast hx hb hK hP hD hS 11 rfl 2 (rfl) (by decide) (by decide) dX4_holdsLevel_13 (fun H locs hP hD hS => ?_)
  have hP : va_P E.1 vwCl (wO Xp Bp Tp Cp Rp ++ (wH E Cp sz nw pf ++ (wP E Bp g z lo up pk ++ (wP E Tp (upd (va_cpy g g2 0 0 15) 2 v1) z lo up pk ++ (wR E Rp ln cd))))) H := hP
  have hD : va_D _ (wO Xp Bp Tp Cp Rp ++ (wH E Cp sz nw pf ++ (wP E Bp g z lo up pk ++ (wP E Tp (upd (va_cpy g g2 0 0 15) 2 v1) z lo up pk ++ (wR E Rp ln cd))))) := hD
  have hw9 : wP E Tp (upd (va_cpy g g2 0 0 15) 2 v1) z lo up pk = wP E Tp (upd (va_cpy g g2 0 0 15) 2 v1) (upd z 2 v1) lo up pk := wP_set 2 v1 (by omega)
  have hP : va_P E.1 vwCl (wO Xp Bp Tp Cp Rp ++ (wH E Cp sz nw pf ++ (wP E Bp g z lo up pk ++ (wP E Tp (upd (va_cpy g g2 0 0 15) 2 v1) (upd z 2 v1) lo up pk ++ (wR E Rp ln cd))))) H := Eq.mp (congrArg (fun y9 => va_P E.1 vwCl (wO Xp Bp Tp Cp Rp ++ (wH E Cp sz nw pf ++ (wP E Bp g z lo up pk ++ (y9 ++ (wR E Rp ln cd))))) H) hw9) hP
  have hD : va_D (va_A (wO Xp Bp Tp Cp Rp ++ (wH E Cp sz nw pf ++ (wP E Bp g z lo up pk ++ (wP E Tp g2 z2 lo2 up2 pk2 ++ (wR E Rp ln cd))))) s.heap.size) (wO Xp Bp Tp Cp Rp ++ (wH E Cp sz nw pf ++ (wP E Bp g z lo up pk ++ (wP E Tp (upd (va_cpy g g2 0 0 15) 2 v1) (upd z 2 v1) lo up pk ++ (wR E Rp ln cd))))) := Eq.mp (congrArg (fun y9 => va_D (va_A (wO Xp Bp Tp Cp Rp ++ (wH E Cp sz nw pf ++ (wP E Bp g z lo up pk ++ (wP E Tp g2 z2 lo2 up2 pk2 ++ (wR E Rp ln cd))))) s.heap.size) (wO Xp Bp Tp Cp Rp ++ (wH E Cp sz nw pf ++ (wP E Bp g z lo up pk ++ (y9 ++ (wR E Rp ln cd)))))) hw9) hD
  refine lv_iconst (v := 0) hx hb dX4_holdsLevel_14 (by decide) ?_
  refine lv_istore_n (lv' := [(3, .int 0), (0, .ref Xp), (1, .int v1), (2, .int v2)]) hx hb dX4_holdsLevel_15 rfl hl (by decide) rfl (fun ls hl => ?_)
  have L_16 : ∀ (n i : Nat) (z3 : Nat → Int32) (l3 : Int32) (u3 : Int32) (q3 : Int32) (H : Heap) (locs : List Loc) (ls : Array Slot), (i + n = 30) → (zOK z3) → (zZ z3) → (∀ k, k < 15 → (upd (va_cpy g g2 0 0 15) 2 v1) k = z3 k) → (hoL v2 n (z3, l3, u3, q3) = hoL v2 30 (upd z 2 v1, lo, up, pk)) → va_P E.1 vwCl (wO Xp Bp Tp Cp Rp ++ (wH E Cp sz nw pf ++ (wP E Bp g z lo up pk ++ (wP E Tp (upd (va_cpy g g2 0 0 15) 2 v1) z3 l3 u3 q3 ++ (wR E Rp ln cd))))) H → va_D (va_A (wO Xp Bp Tp Cp Rp ++ (wH E Cp sz nw pf ++ (wP E Bp g z lo up pk ++ (wP E Tp g2 z2 lo2 up2 pk2 ++ (wR E Rp ln cd))))) s.heap.size) (wO Xp Bp Tp Cp Rp ++ (wH E Cp sz nw pf ++ (wP E Bp g z lo up pk ++ (wP E Tp (upd (va_cpy g g2 0 0 15) 2 v1) z3 l3 u3 q3 ++ (wR E Rp ln cd))))) → va_S (va_A (wO Xp Bp Tp Cp Rp ++ (wH E Cp sz nw pf ++ (wP E Bp g z lo up pk ++ (wP E Tp g2 z2 lo2 up2 pk2 ++ (wR E Rp ln cd))))) s.heap.size) s.heap H locs → lv_has ls 4 [(3, .int (nI i)), (0, .ref Xp), (1, .int v1), (2, .int v2)] → W p l e (gR wsX4_holdsLevel 4 91) s m ([.ref Xp, .int v1, .int v2] : List Value).toArray below meth c H locs 0 0 (gMQ below E s (wO Xp Bp Tp Cp Rp ++ (wH E Cp sz nw pf ++ (wP E Bp g z lo up pk ++ (wP E Tp g2 z2 lo2 up2 pk2 ++ (wR E Rp ln cd))))) (wO Xp Bp Tp Cp Rp ++ (wH E Cp sz nw pf ++ (wP E Bp g z lo up pk ++ (wP E Tp (upd (va_cpy g g2 0 0 15) 2 v1) (((hoC v1 v2 (z, lo, up, pk)).2).1) (((hoC v1 v2 (z, lo, up, pk)).2).2.1) (((hoC v1 v2 (z, lo, up, pk)).2).2.2.1) (((hoC v1 v2 (z, lo, up, pk)).2).2.2.2) ++ (wR E Rp ln cd))))) (some (.int (hoC v1 v2 (z, lo, up, pk)).1)) [.ref Xp, .int v1, .int v2]) (F0 m 16 ls []) := by
    intro n
    induction n with
    | zero =>
      intro i z3 l3 u3 q3 H locs ls hin h3 hZ3 hg3 hfn hP hD hS hl
      have hf : ((1 : Int32), (z3, l3, u3, q3)) = hoC v1 v2 (z, lo, up, pk) := hfn.trans (hoC_s _ _ _ _ _ _).symm
      refine lv_iload_n hx hb dX4_holdsLevel_16 rfl (lv_at hl 0 rfl) ?_
      refine lv_bipush (v := 30) hx hb dX4_holdsLevel_17 (by decide) ?_
      refine lv_icmp_ge (tgt := 48) hx hb dX4_holdsLevel_19 (by decide) (fun c_19 => ?_) (fun c_19 => absurd (nI_le (a := 30) (by omega) (by omega)) c_19)
      refine lv_iconst (v := 1) hx hb dX4_holdsLevel_48 (by decide) ?_
      exact gretz hx hb hr hlocks hP hD hS (by first | exact Or.inl rfl | exact Or.inr rfl) (congrArg Prod.fst hf) (by rw [← hf]) dX4_holdsLevel_49
    | succ n ih =>
      intro i z3 l3 u3 q3 H locs ls hin h3 hZ3 hg3 hfn hP hD hS hl
      refine lv_iload_n hx hb dX4_holdsLevel_16 rfl (lv_at hl 0 rfl) ?_
      refine lv_bipush (v := 30) hx hb dX4_holdsLevel_17 (by decide) ?_
      refine lv_icmp_ge (tgt := 48) hx hb dX4_holdsLevel_19 (by decide) (fun c_19 => absurd c_19 (nI_ge (b := 30) (by omega) (by omega))) (fun c_19 => ?_)
      refine lv_aload_n hx hb dX4_holdsLevel_22 rfl (lv_at hl 1 rfl) ?_
      refine va_get (D := E.1) (ci := 4) (v := .ref (Tp 0)) (C := RX4) (T := TX4) (N := 4) hx hb hts hiX4 hown hK hP 0 rfl rfl 1 (by decide) hf18 (fun _ h9 => h9) rfl dX4_holdsLevel_23 ?_
      refine gvMv (wO Xp Bp Tp Cp Rp ++ (wH E Cp sz nw pf ++ (wP E Bp g z lo up pk))) (wR E Rp ln cd) (As := []) (rest := []) ⟨hx, hb, hml, hown, hts⟩ (c_X2_passCycle l E Tp (upd (va_cpy g g2 0 0 15) 2 v1) z3 l3 u3 q3 hg3 h3 hZ3) (cwV 0 hts gX4_holdsLevel_X2_passCycle rfl rfl rfl (by decide +kernel) ⟨Nat.le_of_ble_eq_true rfl, Nat.le_of_ble_eq_true rfl⟩) (va_recv hK hP (ci := 2) (q0 := 10) rfl rfl) hP hK hD hN hS hA rfl hl.1 rfl (Nat.le_of_ble_eq_true rfl) dX4_holdsLevel_26 ⟨Nat.le_refl _, Nat.le_refl _⟩ (fun H locs hP hD hS => ?_)
      have hP : va_P E.1 vwCl (wO Xp Bp Tp Cp Rp ++ (wH E Cp sz nw pf ++ (wP E Bp g z lo up pk ++ (wP E Tp (upd (va_cpy g g2 0 0 15) 2 v1) (pcF z3 l3 u3 q3) ((pcU z3 l3 u3 q3).2.1) ((pcU z3 l3 u3 q3).2.2.1) ((pcU z3 l3 u3 q3).2.2.2.1) ++ (wR E Rp ln cd))))) H := hP
      have hD : va_D _ (wO Xp Bp Tp Cp Rp ++ (wH E Cp sz nw pf ++ (wP E Bp g z lo up pk ++ (wP E Tp (upd (va_cpy g g2 0 0 15) 2 v1) (pcF z3 l3 u3 q3) ((pcU z3 l3 u3 q3).2.1) ((pcU z3 l3 u3 q3).2.2.1) ((pcU z3 l3 u3 q3).2.2.2.1) ++ (wR E Rp ln cd))))) := hD
      refine lv_aload_n hx hb dX4_holdsLevel_29 rfl (lv_at hl 1 rfl) ?_
      refine va_get (D := E.1) (ci := 4) (v := .ref (Tp 0)) (C := RX4) (T := TX4) (N := 4) hx hb hts hiX4 hown hK hP 0 rfl rfl 1 (by decide) hf18 (fun _ h9 => h9) rfl dX4_holdsLevel_30 ?_
      refine va_get (D := E.1) (ci := 2) (v := .int ((pcU z3 l3 u3 q3).2.1)) (C := RX2) (T := TX2) (N := 17) hx hb hts hiX2 hown hK hP 10 rfl rfl 13 (by decide) hf179 (fun _ h9 => h9) rfl dX4_holdsLevel_33 ?_
      refine lv_iload_n hx hb dX4_holdsLevel_36 rfl (lv_at hl 3 rfl) ?_
      refine lv_icmp_ge (tgt := 42) hx hb dX4_holdsLevel_37 (by decide) (fun c_37 => ?_) (fun c_37 => ?_)
      · refine lv_iinc (v := nI (i + 1)) (lv' := [(3, .int (nI (i + 1))), (0, .ref Xp), (1, .int v1), (2, .int v2)]) hx hb dX4_holdsLevel_42 hl (k := 0) rfl (nI_1 _) (by decide) rfl (fun ls hl => ?_)
        refine lv_goto (tgt := 16) hx hb dX4_holdsLevel_45 (by decide) ?_
        exact ih (i + 1) (pcF z3 l3 u3 q3) ((pcU z3 l3 u3 q3).2.1) ((pcU z3 l3 u3 q3).2.2.1) ((pcU z3 l3 u3 q3).2.2.2.1) H locs ls (by omega) (pcF_OK h3) (pcF_Z h3 hZ3) (fun k hk => (hg3 k hk).trans (pcF_g hk).symm) ((if_neg (Int32.not_lt.mpr c_37)).symm.trans ((hoL_s _ _ _ _ _ _).symm.trans hfn)) hP hD hS (lv_sub hl [0, 1, 2, 3] rfl)
      · have hf : ((0 : Int32), (pcF z3 l3 u3 q3, (pcU z3 l3 u3 q3).2.1, (pcU z3 l3 u3 q3).2.2.1, (pcU z3 l3 u3 q3).2.2.2.1)) = hoC v1 v2 (z, lo, up, pk) := (if_pos (Int32.not_le.mp c_37)).symm.trans ((hoL_s _ _ _ _ _ _).symm.trans (hfn.trans (hoC_s _ _ _ _ _ _).symm))
        refine lv_iconst (v := 0) hx hb dX4_holdsLevel_40 (by decide) ?_
        exact gretz hx hb hr hlocks hP hD hS (by first | exact Or.inl rfl | exact Or.inr rfl) (congrArg Prod.fst hf) (by rw [← hf]) dX4_holdsLevel_41
  exact L_16 (30) (0) (upd z 2 v1) lo up pk H locs ls (by omega) (upd_OK hz (by omega) (by omega) (by omega) (by omega) (by omega)) (zZ_of hZ (upd_n (by omega)) (fun i h1 h2 => pk_un (by omega))) (upd_g (fun k hk => (cpy15 hk).trans (hg k hk))) rfl hP hD hS (lv_sub hl [0, 1, 2, 3] rfl)

set_option maxHeartbeats 4000000 in
set_option maxRecDepth 100000 in
theorem c_X4_isPossible (l : Launch) (E : EE) (Sp : Nat → Nat) (Xp : Nat) (Cp : Nat → Nat) (sz nw : Int32) (pf : Nat → Int32) (Bp : Nat → Nat) (g z : Nat → Int32) (lo up pk : Int32) (Tp : Nat → Nat) (g2 z2 : Nat → Int32) (lo2 up2 pk2 : Int32) (Rp : Nat → Nat) (ln : Int32) (cd : Nat → Int32) (v1 v2 : Int32) : GX l yX4_isPossible wsX4_isPossible 2 41 E Sp (wO Xp Bp Tp Cp Rp ++ (wH E Cp sz nw pf ++ (wP E Bp g z lo up pk ++ (wP E Tp g2 z2 lo2 up2 pk2 ++ (wR E Rp ln cd))))) [.ref Xp, .int v1, .int v2] (wO Xp Bp Tp Cp Rp ++ (wH E Cp sz nw pf ++ (wP E Bp g z lo up pk ++ (wP E Tp g2 z2 lo2 up2 pk2 ++ (wR E Rp ln cd))))) (some (.int (posI v1 v2 z))) := by
  intro sz
  refine Met.ofW (cc := cX4_isPossible) (maxL := 3) (ret := (some .boolean)) (by decide) rfl ?_
  intro p e s m args below meth c s₁ B hml hv
  obtain ⟨⟨rfl, rfl, hP, hK, hD0, hN⟩, hX⟩ := hv
  have hx := B.exec
  have hb := B.bytes
  have hr := B.returns
  have hts := atoms_spec (ws := wsX4_isPossible) B.pre
  have hown : s.vm.findClass RX4 = some m.cls := findClass_of_methodNamed B.named
  have hlocks := B.notSynchronized
  have hD := hD0.self (sz := s.heap.size)
  have hA : ∀ q : Nat, s.heap.size ≤ q → va_A (wO Xp Bp Tp Cp Rp ++ (wH E Cp sz nw pf ++ (wP E Bp g z lo up pk ++ (wP E Tp g2 z2 lo2 up2 pk2 ++ (wR E Rp ln cd))))) s.heap.size q := fun q h => Or.inr h
  have hS : va_S (va_A (wO Xp Bp Tp Cp Rp ++ (wH E Cp sz nw pf ++ (wP E Bp g z lo up pk ++ (wP E Tp g2 z2 lo2 up2 pk2 ++ (wR E Rp ln cd))))) s.heap.size) s.heap s.heap [] := va_S.rf
  have hl := lv_entry ([.ref Xp, .int v1, .int v2]) (n := 3) (Nat.le_of_ble_eq_true rfl)
  rw [lg_entry_eq]
  generalize (lg_sl ([.ref Xp, .int v1, .int v2]) ++ List.replicate (3 - (lg_sl ([.ref Xp, .int v1, .int v2])).length) Slot.unset).toArray = ls at hl ⊢
  have hl : lv_has ls 3 [(0, .ref Xp), (1, .int v1), (2, .int v2)] := hl
  have hf14 := hts (.fieldLink RX4 14 "PhaseConverter" "plant" "LPhaseConverter$Plant;") (List.mem_of_getElem? (i := 1) rfl)
  have hiX4 : ∀ w ∈ u_ws RX4 TX4 4, w ∈ wsX4_isPossible := memIn [29, 30, 31, 32] rfl
  refine lv_iload_n hx hb dX4_isPossible_0 rfl (lv_at hl 1 rfl) ?_
  by_cases q_1_114 : v1 = 114
  · refine lv_lookup (off := 53) (tgt := 54) hx hb dX4_isPossible_1 (by decide) (by rw [q_1_114]; decide) (by decide) ?_
    refine lv_iload_n hx hb dX4_isPossible_54 rfl (lv_at hl 2 rfl) ?_
    refine gsPi (As := [.int v2]) (rest := []) ⟨hx, hb, hml, hown, hts⟩ (c_X4_isRunLength l E v2) (va_cwS 1 hts gX4_isPossible_X4_isRunLength rfl rfl rfl (by decide +kernel) ⟨Nat.le_of_ble_eq_true rfl, Nat.le_of_ble_eq_true rfl⟩) hP hK hD hN hS hA rfl hl.1 rfl (Nat.le_of_ble_eq_true rfl) dX4_isPossible_55 ⟨Nat.le_refl _, Nat.le_refl _⟩ (fun H locs hP hD hS => ?_)
    refine lv_if_eq (tgt := 73) hx hb dX4_isPossible_58 (by decide) (fun c_58 => ?_) (fun c_58 => ?_)
    · refine lv_iconst (v := 0) hx hb dX4_isPossible_73 (by decide) ?_
      exact gretz hx hb hr hlocks hP hD hS (by first | exact Or.inl rfl | exact Or.inr rfl) (by simp only [posI, if_pos q_1_114, if_pos c_58]) (rfl) dX4_isPossible_74
    · refine lv_aload_n hx hb dX4_isPossible_61 rfl (lv_at hl 0 rfl) ?_
      refine lv_iload_n hx hb dX4_isPossible_62 rfl (lv_at hl 2 rfl) ?_
      refine gv0i (As := [.int v2]) (rest := []) ⟨hx, hb, hml, hown, hts⟩ (c_X4_hasRoomFor l E Xp Cp sz nw pf Bp g z lo up pk Tp g2 z2 lo2 up2 pk2 Rp ln cd v2) (cwV 1 hts gX4_isPossible_X4_hasRoomFor rfl rfl rfl (by decide +kernel) ⟨Nat.le_of_ble_eq_true rfl, Nat.le_of_ble_eq_true rfl⟩) (va_recv hK hP (ci := 4) (q0 := 0) rfl rfl) hP hK hD hN hS hA rfl hl.1 rfl (Nat.le_of_ble_eq_true rfl) dX4_isPossible_63 ⟨Nat.le_refl _, Nat.le_refl _⟩ (fun H locs hP hD hS => ?_)
      have hP : va_P E.1 vwCl (wO Xp Bp Tp Cp Rp ++ (wH E Cp sz nw pf ++ (wP E Bp g z lo up pk ++ (wP E Tp g2 z2 lo2 up2 pk2 ++ (wR E Rp ln cd))))) H := hP
      have hD : va_D _ (wO Xp Bp Tp Cp Rp ++ (wH E Cp sz nw pf ++ (wP E Bp g z lo up pk ++ (wP E Tp g2 z2 lo2 up2 pk2 ++ (wR E Rp ln cd))))) := hD
      refine lv_if_eq (tgt := 73) hx hb dX4_isPossible_66 (by decide) (fun c_66 => ?_) (fun c_66 => ?_)
      · refine lv_iconst (v := 0) hx hb dX4_isPossible_73 (by decide) ?_
        exact gretz hx hb hr hlocks hP hD hS (by first | exact Or.inl rfl | exact Or.inr rfl) (by simp only [posI, if_pos q_1_114, if_neg c_58, if_pos c_66]) (rfl) dX4_isPossible_74
      · refine lv_iconst (v := 1) hx hb dX4_isPossible_69 (by decide) ?_
        refine lv_goto (tgt := 74) hx hb dX4_isPossible_70 (by decide) ?_
        exact gretz hx hb hr hlocks hP hD hS (by first | exact Or.inl rfl | exact Or.inr rfl) (by simp only [posI, if_pos q_1_114, if_neg c_58, if_neg c_66]) (rfl) dX4_isPossible_74
  by_cases q_1_115 : v1 = 115
  · refine lv_lookup (off := 35) (tgt := 36) hx hb dX4_isPossible_1 (by decide) (by rw [q_1_115]; decide) (by decide) ?_
    refine lv_aload_n hx hb dX4_isPossible_36 rfl (lv_at hl 0 rfl) ?_
    refine va_get (D := E.1) (ci := 4) (v := .ref (Bp 0)) (C := RX4) (T := TX4) (N := 4) hx hb hts hiX4 hown hK hP 0 rfl rfl 0 (by decide) hf14 (fun _ h9 => h9) rfl dX4_isPossible_37 ?_
    refine gvMi (wO Xp Bp Tp Cp Rp ++ (wH E Cp sz nw pf)) (wP E Tp g2 z2 lo2 up2 pk2 ++ (wR E Rp ln cd)) (As := []) (rest := []) ⟨hx, hb, hml, hown, hts⟩ (c_X2_runs l E Bp g z lo up pk) (cwV 0 hts gX4_isPossible_X2_runs rfl rfl rfl (by decide +kernel) ⟨Nat.le_of_ble_eq_true rfl, Nat.le_of_ble_eq_true rfl⟩) (va_recv hK hP (ci := 2) (q0 := 3) rfl rfl) hP hK hD hN hS hA rfl hl.1 rfl (Nat.le_of_ble_eq_true rfl) dX4_isPossible_40 ⟨Nat.le_refl _, Nat.le_refl _⟩ (fun H locs hP hD hS => ?_)
    have hP : va_P E.1 vwCl (wO Xp Bp Tp Cp Rp ++ (wH E Cp sz nw pf ++ (wP E Bp g z lo up pk ++ (wP E Tp g2 z2 lo2 up2 pk2 ++ (wR E Rp ln cd))))) H := hP
    have hD : va_D _ (wO Xp Bp Tp Cp Rp ++ (wH E Cp sz nw pf ++ (wP E Bp g z lo up pk ++ (wP E Tp g2 z2 lo2 up2 pk2 ++ (wR E Rp ln cd))))) := hD
    refine lv_if_ne (tgt := 50) hx hb dX4_isPossible_43 (by decide) (fun c_43 => ?_) (fun c_43 => ?_)
    · refine lv_iconst (v := 0) hx hb dX4_isPossible_50 (by decide) ?_
      exact gretz hx hb hr hlocks hP hD hS (by first | exact Or.inl rfl | exact Or.inr rfl) (by simp only [posI, if_neg q_1_114, if_pos q_1_115, if_neg c_43]) (rfl) dX4_isPossible_51
    · refine lv_iconst (v := 1) hx hb dX4_isPossible_46 (by decide) ?_
      refine lv_goto (tgt := 51) hx hb dX4_isPossible_47 (by decide) ?_
      exact gretz hx hb hr hlocks hP hD hS (by first | exact Or.inl rfl | exact Or.inr rfl) (by simp only [posI, if_neg q_1_114, if_pos q_1_115, if_pos c_43]) (rfl) dX4_isPossible_51
  by_cases q_1_120 : v1 = 120
  · refine lv_lookup (off := 51) (tgt := 52) hx hb dX4_isPossible_1 (by decide) (by rw [q_1_120]; decide) (by decide) ?_
    refine lv_iconst (v := 1) hx hb dX4_isPossible_52 (by decide) ?_
    exact gretz hx hb hr hlocks hP hD hS (by first | exact Or.inl rfl | exact Or.inr rfl) (by simp only [posI, if_neg q_1_114, if_neg q_1_115, if_pos q_1_120]) (rfl) dX4_isPossible_53
  refine lv_lookup (off := 74) (tgt := 75) hx hb dX4_isPossible_1 (by decide) ((lv_osw (k := 114) q_1_114 (by decide)).trans ((lv_osw (k := 115) q_1_115 (by decide)).trans ((lv_osw (k := 120) q_1_120 (by decide)).trans (rfl)))) (by decide) ?_
  refine lv_iload_n hx hb dX4_isPossible_75 rfl (lv_at hl 1 rfl) ?_
  refine gsPi (As := [.int v1]) (rest := []) ⟨hx, hb, hml, hown, hts⟩ (c_X4_settingOf l E v1) (va_cwS 1 hts gX4_isPossible_X4_settingOf rfl rfl rfl (by decide +kernel) ⟨Nat.le_of_ble_eq_true rfl, Nat.le_of_ble_eq_true rfl⟩) hP hK hD hN hS hA rfl hl.1 rfl (Nat.le_of_ble_eq_true rfl) dX4_isPossible_76 ⟨Nat.le_refl _, Nat.le_refl _⟩ (fun H locs hP hD hS => ?_)
  refine lv_iload_n hx hb dX4_isPossible_79 rfl (lv_at hl 2 rfl) ?_
  refine xsPi (As := [.int (sofI v1), .int v2]) (rest := []) ⟨hx, hb, hml, hown, hts⟩ (c_X4_fits l E Sp (sofI v1) v2) (va_cwS 2 hts gX4_isPossible_X4_fits rfl rfl rfl (by decide +kernel) ⟨Nat.le_of_ble_eq_true rfl, Nat.le_of_ble_eq_true rfl⟩) hP hK hD hN hX hS hA rfl hl.1 rfl (Nat.le_of_ble_eq_true rfl) dX4_isPossible_80 ⟨Nat.le_refl _, Nat.le_refl _⟩ (fun H locs hP hD hS => ?_)
  exact gretz hx hb hr hlocks hP hD hS (fitI_01 _ _) (by simp only [posI, if_neg q_1_114, if_neg q_1_115, if_neg q_1_120]) (rfl) dX4_isPossible_83

set_option maxHeartbeats 4000000 in
set_option maxRecDepth 100000 in
theorem c_X4_carryOut (l : Launch) (E : EE) (Xp : Nat) (Cp : Nat → Nat) (sz nw : Int32) (pf : Nat → Int32) (Bp : Nat → Nat) (g z : Nat → Int32) (lo up pk : Int32) (Tp : Nat → Nat) (g2 z2 : Nat → Int32) (lo2 up2 pk2 : Int32) (Rp : Nat → Nat) (ln : Int32) (cd : Nat → Int32) (v1 v2 : Int32) (hpos : ¬ posI v1 v2 z = 0) (hg : ∀ k, k < 15 → g k = z k) (hz : zOK z) (hZ : zZ z) (hrk : rOK sz nw) : GM l yX4_carryOut wsX4_carryOut 5 114 E (wO Xp Bp Tp Cp Rp ++ (wH E Cp sz nw pf ++ (wP E Bp g z lo up pk ++ (wP E Tp g2 z2 lo2 up2 pk2 ++ (wR E Rp ln cd))))) [.ref Xp, .int v1, .int v2] (wO Xp Bp Tp Cp Rp ++ (wH E Cp ((coF v1 v2 ((z, lo, up, pk), (sz, nw, pf))).2.1) ((coF v1 v2 ((z, lo, up, pk), (sz, nw, pf))).2.2.1) ((coF v1 v2 ((z, lo, up, pk), (sz, nw, pf))).2.2.2) ++ (wP E Bp (coG v1 v2 g) ((coF v1 v2 ((z, lo, up, pk), (sz, nw, pf))).1.1) ((coF v1 v2 ((z, lo, up, pk), (sz, nw, pf))).1.2.1) ((coF v1 v2 ((z, lo, up, pk), (sz, nw, pf))).1.2.2.1) ((coF v1 v2 ((z, lo, up, pk), (sz, nw, pf))).1.2.2.2) ++ (wP E Tp g2 z2 lo2 up2 pk2 ++ (wR E Rp ln cd))))) (none) := by
  intro sz
  refine Met.ofW (cc := cX4_carryOut) (maxL := 4) (ret := none) (by decide) rfl ?_
  intro p e s m args below meth c s₁ B hml hv
  obtain ⟨rfl, rfl, hP, hK, hD0, hN⟩ := hv
  have hx := B.exec
  have hb := B.bytes
  have hr := B.returns
  have hts := atoms_spec (ws := wsX4_carryOut) B.pre
  have hown : s.vm.findClass RX4 = some m.cls := findClass_of_methodNamed B.named
  have hlocks := B.notSynchronized
  have hD := hD0.self (sz := s.heap.size)
  have hA : ∀ q : Nat, s.heap.size ≤ q → va_A (wO Xp Bp Tp Cp Rp ++ (wH E Cp sz nw pf ++ (wP E Bp g z lo up pk ++ (wP E Tp g2 z2 lo2 up2 pk2 ++ (wR E Rp ln cd))))) s.heap.size q := fun q h => Or.inr h
  have hS : va_S (va_A (wO Xp Bp Tp Cp Rp ++ (wH E Cp sz nw pf ++ (wP E Bp g z lo up pk ++ (wP E Tp g2 z2 lo2 up2 pk2 ++ (wR E Rp ln cd))))) s.heap.size) s.heap s.heap [] := va_S.rf
  have hl := lv_entry ([.ref Xp, .int v1, .int v2]) (n := 4) (Nat.le_of_ble_eq_true rfl)
  rw [lg_entry_eq]
  generalize (lg_sl ([.ref Xp, .int v1, .int v2]) ++ List.replicate (4 - (lg_sl ([.ref Xp, .int v1, .int v2])).length) Slot.unset).toArray = ls at hl ⊢
  have hl : lv_has ls 4 [(0, .ref Xp), (1, .int v1), (2, .int v2)] := hl
  have hf14 := hts (.fieldLink RX4 14 "PhaseConverter" "plant" "LPhaseConverter$Plant;") (List.mem_of_getElem? (i := 1) rfl)
  have hf67 := hts (.fieldLink RX4 67 "PhaseConverter$Plant" "settings" "[I") (List.mem_of_getElem? (i := 2) rfl)
  have hiX2 : ∀ w ∈ u_ws RX2 TX2 17, w ∈ wsX4_carryOut := memIn [149, 150, 151, 152, 153, 154, 155, 156, 157, 158, 159, 160, 161, 162, 163, 164, 165] rfl
  have hiX4 : ∀ w ∈ u_ws RX4 TX4 4, w ∈ wsX4_carryOut := memIn [145, 146, 147, 148] rfl
  refine lv_iload_n hx hb dX4_carryOut_0 rfl (lv_at hl 1 rfl) ?_
  by_cases q_1_114 : v1 = 114
  · refine lv_lookup (off := 56) (tgt := 57) hx hb dX4_carryOut_1 (by decide) (by rw [q_1_114]; decide) (by decide) ?_
    have hnb := inRg_ix1 (n := 200) (by decide) (pos_114 q_1_114 hpos)
    refine lv_aload_n hx hb dX4_carryOut_57 rfl (lv_at hl 0 rfl) ?_
    refine lv_iload_n hx hb dX4_carryOut_58 rfl (lv_at hl 2 rfl) ?_
    refine W.eq (g2 := F0 m 59 ls [.int (nI v2.toNatClampNeg), .ref Xp]) (by rw [hnb.1]) ?_
    refine gv0v (As := [.int (nI v2.toNatClampNeg)]) (rest := []) ⟨hx, hb, hml, hown, hts⟩ (c_X4_passCycles l E Xp Cp sz nw pf Bp g z lo up pk Tp g2 z2 lo2 up2 pk2 Rp ln cd v2.toNatClampNeg hnb.2.1 hg hz hZ hrk) (cwV 1 hts gX4_carryOut_X4_passCycles rfl rfl rfl (by decide +kernel) ⟨Nat.le_of_ble_eq_true rfl, Nat.le_of_ble_eq_true rfl⟩) (va_recv hK hP (ci := 4) (q0 := 0) rfl rfl) hP hK hD hN hS hA rfl hl.1 rfl (Nat.le_of_ble_eq_true rfl) dX4_carryOut_59 ⟨Nat.le_refl _, Nat.le_refl _⟩ (fun H locs hP hD hS => ?_)
    have hP : va_P E.1 vwCl (wO Xp Bp Tp Cp Rp ++ (wH E Cp ((pcsL v2.toNatClampNeg ((z, lo, up, pk), (sz, nw, pf))).2.1) ((pcsL v2.toNatClampNeg ((z, lo, up, pk), (sz, nw, pf))).2.2.1) ((pcsL v2.toNatClampNeg ((z, lo, up, pk), (sz, nw, pf))).2.2.2) ++ (wP E Bp g ((pcsL v2.toNatClampNeg ((z, lo, up, pk), (sz, nw, pf))).1.1) ((pcsL v2.toNatClampNeg ((z, lo, up, pk), (sz, nw, pf))).1.2.1) ((pcsL v2.toNatClampNeg ((z, lo, up, pk), (sz, nw, pf))).1.2.2.1) ((pcsL v2.toNatClampNeg ((z, lo, up, pk), (sz, nw, pf))).1.2.2.2) ++ (wP E Tp g2 z2 lo2 up2 pk2 ++ (wR E Rp ln cd))))) H := hP
    have hD : va_D _ (wO Xp Bp Tp Cp Rp ++ (wH E Cp ((pcsL v2.toNatClampNeg ((z, lo, up, pk), (sz, nw, pf))).2.1) ((pcsL v2.toNatClampNeg ((z, lo, up, pk), (sz, nw, pf))).2.2.1) ((pcsL v2.toNatClampNeg ((z, lo, up, pk), (sz, nw, pf))).2.2.2) ++ (wP E Bp g ((pcsL v2.toNatClampNeg ((z, lo, up, pk), (sz, nw, pf))).1.1) ((pcsL v2.toNatClampNeg ((z, lo, up, pk), (sz, nw, pf))).1.2.1) ((pcsL v2.toNatClampNeg ((z, lo, up, pk), (sz, nw, pf))).1.2.2.1) ((pcsL v2.toNatClampNeg ((z, lo, up, pk), (sz, nw, pf))).1.2.2.2) ++ (wP E Tp g2 z2 lo2 up2 pk2 ++ (wR E Rp ln cd))))) := hD
    refine lv_goto (tgt := 87) hx hb dX4_carryOut_62 (by decide) ?_
    exact gretv hx hb hr hlocks hP hD hS (by simp only [coF, coG, if_pos q_1_114]) dX4_carryOut_87
  by_cases q_1_115 : v1 = 115
  · refine lv_lookup (off := 35) (tgt := 36) hx hb dX4_carryOut_1 (by decide) (by rw [q_1_115]; decide) (by decide) ?_
    refine lv_aload_n hx hb dX4_carryOut_36 rfl (lv_at hl 0 rfl) ?_
    refine va_get (D := E.1) (ci := 4) (v := .ref (Bp 0)) (C := RX4) (T := TX4) (N := 4) hx hb hts hiX4 hown hK hP 0 rfl rfl 0 (by decide) hf14 (fun _ h9 => h9) rfl dX4_carryOut_37 ?_
    refine gvMv (wO Xp Bp Tp Cp Rp ++ (wH E Cp sz nw pf)) (wP E Tp g2 z2 lo2 up2 pk2 ++ (wR E Rp ln cd)) (As := []) (rest := []) ⟨hx, hb, hml, hown, hts⟩ (c_X2_softStart l E Bp g z lo up pk hz hZ) (cwV 0 hts gX4_carryOut_X2_softStart rfl rfl rfl (by decide +kernel) ⟨Nat.le_of_ble_eq_true rfl, Nat.le_of_ble_eq_true rfl⟩) (va_recv hK hP (ci := 2) (q0 := 3) rfl rfl) hP hK hD hN hS hA rfl hl.1 rfl (Nat.le_of_ble_eq_true rfl) dX4_carryOut_40 ⟨Nat.le_refl _, Nat.le_refl _⟩ (fun H locs hP hD hS => ?_)
    have hP : va_P E.1 vwCl (wO Xp Bp Tp Cp Rp ++ (wH E Cp sz nw pf ++ (wP E Bp g (startZ z) lo up pk ++ (wP E Tp g2 z2 lo2 up2 pk2 ++ (wR E Rp ln cd))))) H := hP
    have hD : va_D _ (wO Xp Bp Tp Cp Rp ++ (wH E Cp sz nw pf ++ (wP E Bp g (startZ z) lo up pk ++ (wP E Tp g2 z2 lo2 up2 pk2 ++ (wR E Rp ln cd))))) := hD
    refine lv_goto (tgt := 87) hx hb dX4_carryOut_43 (by decide) ?_
    exact gretv hx hb hr hlocks hP hD hS (by simp only [coF, coG, if_neg q_1_114, if_pos q_1_115]) dX4_carryOut_87
  by_cases q_1_120 : v1 = 120
  · refine lv_lookup (off := 45) (tgt := 46) hx hb dX4_carryOut_1 (by decide) (by rw [q_1_120]; decide) (by decide) ?_
    refine lv_aload_n hx hb dX4_carryOut_46 rfl (lv_at hl 0 rfl) ?_
    refine va_get (D := E.1) (ci := 4) (v := .ref (Bp 0)) (C := RX4) (T := TX4) (N := 4) hx hb hts hiX4 hown hK hP 0 rfl rfl 0 (by decide) hf14 (fun _ h9 => h9) rfl dX4_carryOut_47 ?_
    refine lv_iconst (v := 0) hx hb dX4_carryOut_50 (by decide) ?_
    refine gvMv (wO Xp Bp Tp Cp Rp ++ (wH E Cp sz nw pf)) (wP E Tp g2 z2 lo2 up2 pk2 ++ (wR E Rp ln cd)) (As := [.int 0]) (rest := []) ⟨hx, hb, hml, hown, hts⟩ (c_X2_halt l E Bp g z lo up pk 0 hz hZ) (cwV 1 hts gX4_carryOut_X2_halt rfl rfl rfl (by decide +kernel) ⟨Nat.le_of_ble_eq_true rfl, Nat.le_of_ble_eq_true rfl⟩) (va_recv hK hP (ci := 2) (q0 := 3) rfl rfl) hP hK hD hN hS hA rfl hl.1 rfl (Nat.le_of_ble_eq_true rfl) dX4_carryOut_51 ⟨Nat.le_refl _, Nat.le_refl _⟩ (fun H locs hP hD hS => ?_)
    have hP : va_P E.1 vwCl (wO Xp Bp Tp Cp Rp ++ (wH E Cp sz nw pf ++ (wP E Bp g (stopTo 0 z) lo up pk ++ (wP E Tp g2 z2 lo2 up2 pk2 ++ (wR E Rp ln cd))))) H := hP
    have hD : va_D _ (wO Xp Bp Tp Cp Rp ++ (wH E Cp sz nw pf ++ (wP E Bp g (stopTo 0 z) lo up pk ++ (wP E Tp g2 z2 lo2 up2 pk2 ++ (wR E Rp ln cd))))) := hD
    refine lv_goto (tgt := 87) hx hb dX4_carryOut_54 (by decide) ?_
    exact gretv hx hb hr hlocks hP hD hS (by simp only [coF, coG, if_neg q_1_114, if_neg q_1_115, if_pos q_1_120]) dX4_carryOut_87
  refine lv_lookup (off := 64) (tgt := 65) hx hb dX4_carryOut_1 (by decide) ((lv_osw (k := 114) q_1_114 (by decide)).trans ((lv_osw (k := 115) q_1_115 (by decide)).trans ((lv_osw (k := 120) q_1_120 (by decide)).trans (rfl)))) (by decide) ?_
  have hin := fit_in (pos_set q_1_114 q_1_115 q_1_120 hpos)
  have hix := inRg_ix (n := 14) (by decide) hin
  refine lv_iload_n hx hb dX4_carryOut_65 rfl (lv_at hl 1 rfl) ?_
  refine gsPi (As := [.int v1]) (rest := []) ⟨hx, hb, hml, hown, hts⟩ (c_X4_settingOf l E v1) (va_cwS 1 hts gX4_carryOut_X4_settingOf rfl rfl rfl (by decide +kernel) ⟨Nat.le_of_ble_eq_true rfl, Nat.le_of_ble_eq_true rfl⟩) hP hK hD hN hS hA rfl hl.1 rfl (Nat.le_of_ble_eq_true rfl) dX4_carryOut_66 ⟨Nat.le_refl _, Nat.le_refl _⟩ (fun H locs hP hD hS => ?_)
  refine lv_istore_n (lv' := [(3, .int (sofI v1)), (0, .ref Xp), (1, .int v1), (2, .int v2)]) hx hb dX4_carryOut_69 rfl hl (by decide) rfl (fun ls hl => ?_)
  refine lv_iload_n hx hb dX4_carryOut_70 rfl (lv_at hl 0 rfl) ?_
  refine gsPi (As := [.int (sofI v1)]) (rest := []) ⟨hx, hb, hml, hown, hts⟩ (c_X4_isSetting l E (sofI v1)) (va_cwS 1 hts gX4_carryOut_X4_isSetting rfl rfl rfl (by decide +kernel) ⟨Nat.le_of_ble_eq_true rfl, Nat.le_of_ble_eq_true rfl⟩) hP hK hD hN hS hA rfl hl.1 rfl (Nat.le_of_ble_eq_true rfl) dX4_carryOut_71 ⟨Nat.le_refl _, Nat.le_refl _⟩ (fun H locs hP hD hS => ?_)
  refine lv_if_eq (tgt := 87) hx hb dX4_carryOut_74 (by decide) (fun c_74 => absurd c_74 hin) (fun c_74 => ?_)
  refine lv_aload_n hx hb dX4_carryOut_77 rfl (lv_at hl 1 rfl) ?_
  refine va_get (D := E.1) (ci := 4) (v := .ref (Bp 0)) (C := RX4) (T := TX4) (N := 4) hx hb hts hiX4 hown hK hP 0 rfl rfl 0 (by decide) hf14 (fun _ h9 => h9) rfl dX4_carryOut_78 ?_
  refine va_get (D := E.1) (ci := 2) (v := .ref (Bp 1)) (C := RX2) (T := TX2) (N := 17) hx hb hts hiX2 hown hK hP 3 rfl rfl 0 (by decide) hf67 (fun _ h9 => h9) rfl dX4_carryOut_81 ?_
  refine lv_iload_n hx hb dX4_carryOut_84 rfl (lv_at hl 0 rfl) ?_
  refine lv_iload_n hx hb dX4_carryOut_85 rfl (lv_at hl 3 rfl) ?_
  refine gast hx hb hK hP hD hS 4 rfl ((sofI v1).toNatClampNeg) (hix.1.symm) (hix.2) (by decide) dX4_carryOut_86 (fun H locs hP hD hS => ?_)
  have hP : va_P E.1 vwCl (wO Xp Bp Tp Cp Rp ++ (wH E Cp sz nw pf ++ (wP E Bp (upd g ((sofI v1).toNatClampNeg) v2) z lo up pk ++ (wP E Tp g2 z2 lo2 up2 pk2 ++ (wR E Rp ln cd))))) H := hP
  have hD : va_D _ (wO Xp Bp Tp Cp Rp ++ (wH E Cp sz nw pf ++ (wP E Bp (upd g ((sofI v1).toNatClampNeg) v2) z lo up pk ++ (wP E Tp g2 z2 lo2 up2 pk2 ++ (wR E Rp ln cd))))) := hD
  exact gretv hx hb hr hlocks hP hD hS (by simp only [coF, coG, if_neg q_1_114, if_neg q_1_115, if_neg q_1_120]; rw [wP_set (E := E) (B := Bp) (g := upd g (sofI v1).toNatClampNeg v2) (z := z) (sofI v1).toNatClampNeg v2 hix.2]) dX4_carryOut_87

set_option maxHeartbeats 4000000 in
set_option maxRecDepth 100000 in
theorem c_X4_settles (l : Launch) (E : EE) (Xp : Nat) (Cp : Nat → Nat) (sz nw : Int32) (pf : Nat → Int32) (Bp : Nat → Nat) (g z : Nat → Int32) (lo up pk : Int32) (Tp : Nat → Nat) (g2 z2 : Nat → Int32) (lo2 up2 pk2 : Int32) (Rp : Nat → Nat) (ln : Int32) (cd : Nat → Int32) (v1 : Int32) (hv0 : ¬ v1 < 0) (hv5 : ¬ 5000 < v1) (hg : ∀ k, k < 15 → g k = z k) (hz : zOK z) (hZ : zZ z) : GM l yX4_settles wsX4_settles 4 91 E (wO Xp Bp Tp Cp Rp ++ (wH E Cp sz nw pf ++ (wP E Bp g z lo up pk ++ (wP E Tp g2 z2 lo2 up2 pk2 ++ (wR E Rp ln cd))))) [.ref Xp, .int v1] (wO Xp Bp Tp Cp Rp ++ (wH E Cp sz nw pf ++ (wP E Bp g z lo up pk ++ (wP E Tp (va_cpy g g2 0 0 15) (((stC v1 (z 1) 202 1 0 (z, lo, up, pk)).2).1) (((stC v1 (z 1) 202 1 0 (z, lo, up, pk)).2).2.1) (((stC v1 (z 1) 202 1 0 (z, lo, up, pk)).2).2.2.1) (((stC v1 (z 1) 202 1 0 (z, lo, up, pk)).2).2.2.2) ++ (wR E Rp ln cd))))) (some (.int (stC v1 (z 1) 202 1 0 (z, lo, up, pk)).1)) := by
  intro sz
  refine Met.ofW (cc := cX4_settles) (maxL := 5) (ret := (some .int)) (by decide) rfl ?_
  intro p e s m args below meth c s₁ B hml hv
  obtain ⟨rfl, rfl, hP, hK, hD0, hN⟩ := hv
  have hx := B.exec
  have hb := B.bytes
  have hr := B.returns
  have hts := atoms_spec (ws := wsX4_settles) B.pre
  have hown : s.vm.findClass RX4 = some m.cls := findClass_of_methodNamed B.named
  have hlocks := B.notSynchronized
  have hD := hD0.self (sz := s.heap.size)
  have hA : ∀ q : Nat, s.heap.size ≤ q → va_A (wO Xp Bp Tp Cp Rp ++ (wH E Cp sz nw pf ++ (wP E Bp g z lo up pk ++ (wP E Tp g2 z2 lo2 up2 pk2 ++ (wR E Rp ln cd))))) s.heap.size q := fun q h => Or.inr h
  have hS : va_S (va_A (wO Xp Bp Tp Cp Rp ++ (wH E Cp sz nw pf ++ (wP E Bp g z lo up pk ++ (wP E Tp g2 z2 lo2 up2 pk2 ++ (wR E Rp ln cd))))) s.heap.size) s.heap s.heap [] := va_S.rf
  have hl := lv_entry ([.ref Xp, .int v1]) (n := 5) (Nat.le_of_ble_eq_true rfl)
  rw [lg_entry_eq]
  generalize (lg_sl ([.ref Xp, .int v1]) ++ List.replicate (5 - (lg_sl ([.ref Xp, .int v1])).length) Slot.unset).toArray = ls at hl ⊢
  have hl : lv_has ls 5 [(0, .ref Xp), (1, .int v1)] := hl
  have hf18 := hts (.fieldLink RX4 18 "PhaseConverter" "trial" "LPhaseConverter$Plant;") (List.mem_of_getElem? (i := 3) rfl)
  have hf67 := hts (.fieldLink RX4 67 "PhaseConverter$Plant" "settings" "[I") (List.mem_of_getElem? (i := 4) rfl)
  have hf83 := hts (.fieldLink RX4 83 "PhaseConverter$Plant" "voltage" "I") (List.mem_of_getElem? (i := 5) rfl)
  have hiX2 : ∀ w ∈ u_ws RX2 TX2 17, w ∈ wsX4_settles := memIn [133, 134, 135, 136, 137, 138, 139, 140, 141, 142, 143, 144, 145, 146, 147, 148, 149] rfl
  have hiX4 : ∀ w ∈ u_ws RX4 TX4 4, w ∈ wsX4_settles := memIn [129, 130, 131, 132] rfl
  refine lv_iload_n hx hb dX4_settles_0 rfl (lv_at hl 1 rfl) ?_
  refine lv_if_lt (tgt := 11) hx hb dX4_settles_1 (by decide) (fun c_1 => absurd c_1 hv0) (fun c_1 => ?_)
  refine lv_iload_n hx hb dX4_settles_4 rfl (lv_at hl 1 rfl) ?_
  refine lv_sipush (v := 5000) hx hb dX4_settles_5 (by decide) ?_
  refine lv_icmp_le (tgt := 21) hx hb dX4_settles_8 (by decide) (fun c_8 => ?_) (fun c_8 => absurd (Int32.not_lt.mp hv5) c_8)
  refine lv_aload_n hx hb dX4_settles_21 rfl (lv_at hl 0 rfl) ?_
  refine gv0v (As := []) (rest := []) ⟨hx, hb, hml, hown, hts⟩ (c_X4_beginTrial l E Xp Cp sz nw pf Bp g z lo up pk Tp g2 z2 lo2 up2 pk2 Rp ln cd) (cwV 0 hts gX4_settles_X4_beginTrial rfl rfl rfl (by decide +kernel) ⟨Nat.le_of_ble_eq_true rfl, Nat.le_of_ble_eq_true rfl⟩) (va_recv hK hP (ci := 4) (q0 := 0) rfl rfl) hP hK hD hN hS hA rfl hl.1 rfl (Nat.le_of_ble_eq_true rfl) dX4_settles_22 ⟨Nat.le_refl _, Nat.le_refl _⟩ (fun H locs hP hD hS => ?_)
  have hP : va_P E.1 vwCl (wO Xp Bp Tp Cp Rp ++ (wH E Cp sz nw pf ++ (wP E Bp g z lo up pk ++ (wP E Tp (va_cpy g g2 0 0 15) z lo up pk ++ (wR E Rp ln cd))))) H := hP
  have hD : va_D _ (wO Xp Bp Tp Cp Rp ++ (wH E Cp sz nw pf ++ (wP E Bp g z lo up pk ++ (wP E Tp (va_cpy g g2 0 0 15) z lo up pk ++ (wR E Rp ln cd))))) := hD
  have hgT : ∀ k, k < 15 → va_cpy g g2 0 0 15 k = z k := fun k hk => (cpy15 hk).trans (hg k hk)
  refine lv_aload_n hx hb dX4_settles_25 rfl (lv_at hl 0 rfl) ?_
  refine va_get (D := E.1) (ci := 4) (v := .ref (Tp 0)) (C := RX4) (T := TX4) (N := 4) hx hb hts hiX4 hown hK hP 0 rfl rfl 1 (by decide) hf18 (fun _ h9 => h9) rfl dX4_settles_26 ?_
  refine va_get (D := E.1) (ci := 2) (v := .ref (Tp 1)) (C := RX2) (T := TX2) (N := 17) hx hb hts hiX2 hown hK hP 10 rfl rfl 0 (by decide) hf67 (fun _ h9 => h9) rfl dX4_settles_29 ?_
  refine lv_iconst (v := 1) hx hb dX4_settles_32 (by decide) ?_
  refine gald (x := z 1) hx hb hK hP 11 rfl 1 (rfl) (by decide) (by decide) (hgT 1 (by omega)) dX4_settles_33 ?_
  refine lv_istore_n (lv' := [(2, .int (z 1)), (0, .ref Xp), (1, .int v1)]) hx hb dX4_settles_34 rfl hl (by decide) rfl (fun ls hl => ?_)
  refine lv_iconst (v := 0) hx hb dX4_settles_35 (by decide) ?_
  refine lv_istore_n (lv' := [(3, .int 0), (2, .int (z 1)), (0, .ref Xp), (1, .int v1)]) hx hb dX4_settles_36 rfl hl (by decide) rfl (fun ls hl => ?_)
  refine lv_iconst (v := 1) hx hb dX4_settles_37 (by decide) ?_
  refine lv_istore (lv' := [(4, .int 1), (3, .int 0), (2, .int (z 1)), (0, .ref Xp), (1, .int v1)]) hx hb dX4_settles_38 hl (by decide) rfl (fun ls hl => ?_)
  have L_40 : ∀ (n i : Nat) (z3 : Nat → Int32) (l3 : Int32) (u3 : Int32) (q3 : Int32) (y3 : Int32) (H : Heap) (locs : List Loc) (ls : Array Slot), (i + n = 203) → (zOK z3) → (zZ z3) → (∀ k, k < 15 → (va_cpy g g2 0 0 15) k = z3 k) → (stC v1 (z 1) n i y3 (z3, l3, u3, q3) = stC v1 (z 1) 202 1 0 (z, lo, up, pk)) → va_P E.1 vwCl (wO Xp Bp Tp Cp Rp ++ (wH E Cp sz nw pf ++ (wP E Bp g z lo up pk ++ (wP E Tp (va_cpy g g2 0 0 15) z3 l3 u3 q3 ++ (wR E Rp ln cd))))) H → va_D (va_A (wO Xp Bp Tp Cp Rp ++ (wH E Cp sz nw pf ++ (wP E Bp g z lo up pk ++ (wP E Tp g2 z2 lo2 up2 pk2 ++ (wR E Rp ln cd))))) s.heap.size) (wO Xp Bp Tp Cp Rp ++ (wH E Cp sz nw pf ++ (wP E Bp g z lo up pk ++ (wP E Tp (va_cpy g g2 0 0 15) z3 l3 u3 q3 ++ (wR E Rp ln cd))))) → va_S (va_A (wO Xp Bp Tp Cp Rp ++ (wH E Cp sz nw pf ++ (wP E Bp g z lo up pk ++ (wP E Tp g2 z2 lo2 up2 pk2 ++ (wR E Rp ln cd))))) s.heap.size) s.heap H locs → lv_has ls 5 [(4, .int (nI i)), (3, .int y3), (2, .int (z 1)), (0, .ref Xp), (1, .int v1)] → W p l e (gR wsX4_settles 4 91) s m ([.ref Xp, .int v1] : List Value).toArray below meth c H locs 0 0 (gMQ below E s (wO Xp Bp Tp Cp Rp ++ (wH E Cp sz nw pf ++ (wP E Bp g z lo up pk ++ (wP E Tp g2 z2 lo2 up2 pk2 ++ (wR E Rp ln cd))))) (wO Xp Bp Tp Cp Rp ++ (wH E Cp sz nw pf ++ (wP E Bp g z lo up pk ++ (wP E Tp (va_cpy g g2 0 0 15) (((stC v1 (z 1) 202 1 0 (z, lo, up, pk)).2).1) (((stC v1 (z 1) 202 1 0 (z, lo, up, pk)).2).2.1) (((stC v1 (z 1) 202 1 0 (z, lo, up, pk)).2).2.2.1) (((stC v1 (z 1) 202 1 0 (z, lo, up, pk)).2).2.2.2) ++ (wR E Rp ln cd))))) (some (.int (stC v1 (z 1) 202 1 0 (z, lo, up, pk)).1)) [.ref Xp, .int v1]) (F0 m 40 ls []) := by
    intro n
    induction n with
    | zero =>
      intro i z3 l3 u3 q3 y3 H locs ls hin h3 hZ3 hg3 hfn hP hD hS hl
      have hf : ((-1 : Int32), (z3, l3, u3, q3)) = stC v1 (z 1) 202 1 0 (z, lo, up, pk) := hfn
      refine lv_iload hx hb dX4_settles_40 (lv_at hl 0 rfl) ?_
      refine lv_sipush (v := 202) hx hb dX4_settles_42 (by decide) ?_
      refine lv_icmp_gt (tgt := 97) hx hb dX4_settles_45 (by decide) (fun c_45 => ?_) (fun c_45 => absurd (nI_lt (a := 202) (by omega) (by omega)) c_45)
      refine lv_iconst (v := (-1)) hx hb dX4_settles_97 (by decide) ?_
      exact greti hx hb hr hlocks hP hD hS (congrArg Prod.fst hf) (by rw [← hf]) dX4_settles_98
    | succ n ih =>
      intro i z3 l3 u3 q3 y3 H locs ls hin h3 hZ3 hg3 hfn hP hD hS hl
      refine lv_iload hx hb dX4_settles_40 (lv_at hl 0 rfl) ?_
      refine lv_sipush (v := 202) hx hb dX4_settles_42 (by decide) ?_
      refine lv_icmp_gt (tgt := 97) hx hb dX4_settles_45 (by decide) (fun c_45 => absurd c_45 (nI_nlt (a := 202) (by omega) (by omega))) (fun c_45 => ?_)
      refine lv_aload_n hx hb dX4_settles_48 rfl (lv_at hl 3 rfl) ?_
      refine va_get (D := E.1) (ci := 4) (v := .ref (Tp 0)) (C := RX4) (T := TX4) (N := 4) hx hb hts hiX4 hown hK hP 0 rfl rfl 1 (by decide) hf18 (fun _ h9 => h9) rfl dX4_settles_49 ?_
      refine gvMv (wO Xp Bp Tp Cp Rp ++ (wH E Cp sz nw pf ++ (wP E Bp g z lo up pk))) (wR E Rp ln cd) (As := []) (rest := []) ⟨hx, hb, hml, hown, hts⟩ (c_X2_passCycle l E Tp (va_cpy g g2 0 0 15) z3 l3 u3 q3 hg3 h3 hZ3) (cwV 0 hts gX4_settles_X2_passCycle rfl rfl rfl (by decide +kernel) ⟨Nat.le_of_ble_eq_true rfl, Nat.le_of_ble_eq_true rfl⟩) (va_recv hK hP (ci := 2) (q0 := 10) rfl rfl) hP hK hD hN hS hA rfl hl.1 rfl (Nat.le_of_ble_eq_true rfl) dX4_settles_52 ⟨Nat.le_refl _, Nat.le_refl _⟩ (fun H locs hP hD hS => ?_)
      have hP : va_P E.1 vwCl (wO Xp Bp Tp Cp Rp ++ (wH E Cp sz nw pf ++ (wP E Bp g z lo up pk ++ (wP E Tp (va_cpy g g2 0 0 15) (pcF z3 l3 u3 q3) ((pcU z3 l3 u3 q3).2.1) ((pcU z3 l3 u3 q3).2.2.1) ((pcU z3 l3 u3 q3).2.2.2.1) ++ (wR E Rp ln cd))))) H := hP
      have hD : va_D _ (wO Xp Bp Tp Cp Rp ++ (wH E Cp sz nw pf ++ (wP E Bp g z lo up pk ++ (wP E Tp (va_cpy g g2 0 0 15) (pcF z3 l3 u3 q3) ((pcU z3 l3 u3 q3).2.1) ((pcU z3 l3 u3 q3).2.2.1) ((pcU z3 l3 u3 q3).2.2.2.1) ++ (wR E Rp ln cd))))) := hD
      refine lv_aload_n hx hb dX4_settles_55 rfl (lv_at hl 3 rfl) ?_
      refine va_get (D := E.1) (ci := 4) (v := .ref (Tp 0)) (C := RX4) (T := TX4) (N := 4) hx hb hts hiX4 hown hK hP 0 rfl rfl 1 (by decide) hf18 (fun _ h9 => h9) rfl dX4_settles_56 ?_
      refine va_get (D := E.1) (ci := 2) (v := .int ((pcF z3 l3 u3 q3) 17)) (C := RX2) (T := TX2) (N := 17) hx hb hts hiX2 hown hK hP 10 rfl rfl 5 (by decide) hf83 (fun _ h9 => h9) rfl dX4_settles_59 ?_
      refine lv_iload_n hx hb dX4_settles_62 rfl (lv_at hl 2 rfl) ?_
      refine lv_isub hx hb dX4_settles_63 ?_
      refine va_mabs hx hb (by rw [hml]; exact hl.1.symm) hown (hts (.methodLink RX4 198 Lib.Math.abs.name) (List.mem_of_getElem? (i := 6) rfl)) (hts (.static Lib.Math.abs.name) (List.mem_of_getElem? (i := 7) rfl)) (hts (.initialized "java/lang/Math") (List.mem_of_getElem? (i := 8) rfl)) (hts (.code Lib.Math.abs.name Lib.Math.abs.code 1 (some .int)) (List.mem_of_getElem? (i := 9) rfl)) (Nat.le_of_ble_eq_true rfl) (Nat.le_of_ble_eq_true rfl) (Nat.le_of_ble_eq_true rfl) (Nat.le_of_ble_eq_true rfl) dX4_settles_64 ?_
      refine lv_iload_n hx hb dX4_settles_67 rfl (lv_at hl 4 rfl) ?_
      obtain ⟨x_1, ex_1⟩ : ∃ y : Int32, y = (if v1 < (if 0 ≤ (((pcF z3 l3 u3 q3) 17) - (z 1)) then (((pcF z3 l3 u3 q3) 17) - (z 1)) else 0 - (((pcF z3 l3 u3 q3) 17) - (z 1))) then 0 else y3 + 1) := ⟨_, rfl⟩
      have fy : x_1 = (if v1 < absI (pcF z3 l3 u3 q3 17 - z 1) then 0 else y3 + 1) := ex_1
      have J_68 : ∀ (H : Heap) (locs : List Loc) (ls : Array Slot), va_P E.1 vwCl (wO Xp Bp Tp Cp Rp ++ (wH E Cp sz nw pf ++ (wP E Bp g z lo up pk ++ (wP E Tp (va_cpy g g2 0 0 15) (pcF z3 l3 u3 q3) ((pcU z3 l3 u3 q3).2.1) ((pcU z3 l3 u3 q3).2.2.1) ((pcU z3 l3 u3 q3).2.2.2.1) ++ (wR E Rp ln cd))))) H → va_D (va_A (wO Xp Bp Tp Cp Rp ++ (wH E Cp sz nw pf ++ (wP E Bp g z lo up pk ++ (wP E Tp g2 z2 lo2 up2 pk2 ++ (wR E Rp ln cd))))) s.heap.size) (wO Xp Bp Tp Cp Rp ++ (wH E Cp sz nw pf ++ (wP E Bp g z lo up pk ++ (wP E Tp (va_cpy g g2 0 0 15) (pcF z3 l3 u3 q3) ((pcU z3 l3 u3 q3).2.1) ((pcU z3 l3 u3 q3).2.2.1) ((pcU z3 l3 u3 q3).2.2.2.1) ++ (wR E Rp ln cd))))) → va_S (va_A (wO Xp Bp Tp Cp Rp ++ (wH E Cp sz nw pf ++ (wP E Bp g z lo up pk ++ (wP E Tp g2 z2 lo2 up2 pk2 ++ (wR E Rp ln cd))))) s.heap.size) s.heap H locs → lv_has ls 5 [(4, .int (nI i)), (3, .int y3), (2, .int (z 1)), (0, .ref Xp), (1, .int v1)] → W p l e (gR wsX4_settles 4 91) s m ([.ref Xp, .int v1] : List Value).toArray below meth c H locs 0 0 (gMQ below E s (wO Xp Bp Tp Cp Rp ++ (wH E Cp sz nw pf ++ (wP E Bp g z lo up pk ++ (wP E Tp g2 z2 lo2 up2 pk2 ++ (wR E Rp ln cd))))) (wO Xp Bp Tp Cp Rp ++ (wH E Cp sz nw pf ++ (wP E Bp g z lo up pk ++ (wP E Tp (va_cpy g g2 0 0 15) (((stC v1 (z 1) 202 1 0 (z, lo, up, pk)).2).1) (((stC v1 (z 1) 202 1 0 (z, lo, up, pk)).2).2.1) (((stC v1 (z 1) 202 1 0 (z, lo, up, pk)).2).2.2.1) (((stC v1 (z 1) 202 1 0 (z, lo, up, pk)).2).2.2.2) ++ (wR E Rp ln cd))))) (some (.int (stC v1 (z 1) 202 1 0 (z, lo, up, pk)).1)) [.ref Xp, .int v1]) (F0 m 78 ls [.int x_1]) := by
        intro H locs ls hP hD hS hl
        refine lv_istore_n (lv' := [(3, .int x_1), (4, .int (nI i)), (2, .int (z 1)), (0, .ref Xp), (1, .int v1)]) hx hb dX4_settles_78 rfl hl (by decide) rfl (fun ls hl => ?_)
        refine lv_iload_n hx hb dX4_settles_79 rfl (lv_at hl 0 rfl) ?_
        refine lv_iconst (v := 3) hx hb dX4_settles_80 (by decide) ?_
        refine lv_icmp_ne (tgt := 91) hx hb dX4_settles_81 (by decide) (fun c_81 => ?_) (fun c_81 => ?_)
        · refine lv_iinc (v := nI (i + 1)) (lv' := [(4, .int (nI (i + 1))), (3, .int x_1), (2, .int (z 1)), (0, .ref Xp), (1, .int v1)]) hx hb dX4_settles_91 hl (k := 1) rfl (nI_1 _) (by decide) rfl (fun ls hl => ?_)
          refine lv_goto (tgt := 40) hx hb dX4_settles_94 (by decide) ?_
          exact ih (i + 1) (pcF z3 l3 u3 q3) ((pcU z3 l3 u3 q3).2.1) ((pcU z3 l3 u3 q3).2.2.1) ((pcU z3 l3 u3 q3).2.2.2.1) x_1 H locs ls (by omega) (pcF_OK h3) (pcF_Z h3 hZ3) (fun k hk => (hg3 k hk).trans (pcF_g hk).symm) (by rw [← hfn, stC_s, ← fy, if_neg c_81]) hP hD hS (lv_sub hl [0, 1, 2, 3, 4] rfl)
        · have hf : (nI i - 3 + 1, (pcF z3 l3 u3 q3, (pcU z3 l3 u3 q3).2.1, (pcU z3 l3 u3 q3).2.2.1, (pcU z3 l3 u3 q3).2.2.2.1)) = stC v1 (z 1) 202 1 0 (z, lo, up, pk) := by rw [← hfn, stC_s, ← fy, if_pos c_81]
          refine lv_iload hx hb dX4_settles_84 (lv_at hl 1 rfl) ?_
          refine lv_iconst (v := 3) hx hb dX4_settles_86 (by decide) ?_
          refine lv_isub hx hb dX4_settles_87 ?_
          refine lv_iconst (v := 1) hx hb dX4_settles_88 (by decide) ?_
          refine lv_iadd hx hb dX4_settles_89 ?_
          exact greti hx hb hr hlocks hP hD hS (congrArg Prod.fst hf) (by rw [← hf]) dX4_settles_90
      refine lv_icmp_gt (tgt := 77) hx hb dX4_settles_68 (by decide) (fun c_68 => ?_) (fun c_68 => ?_)
      · refine lv_iconst (v := 0) hx hb dX4_settles_77 (by decide) ?_
        refine W.eq (g2 := F0 m 78 ls [.int x_1]) (by rw [ex_1]; simp only [if_pos c_68]) ?_
        exact J_68 H locs ls (hP) (hD) hS (lv_sub hl [0, 1, 2, 3, 4] rfl)
      · refine lv_iload_n hx hb dX4_settles_71 rfl (lv_at hl 1 rfl) ?_
        refine lv_iconst (v := 1) hx hb dX4_settles_72 (by decide) ?_
        refine lv_iadd hx hb dX4_settles_73 ?_
        refine lv_goto (tgt := 78) hx hb dX4_settles_74 (by decide) ?_
        refine W.eq (g2 := F0 m 78 ls [.int x_1]) (by rw [ex_1]; simp only [if_neg c_68]) ?_
        exact J_68 H locs ls (hP) (hD) hS (lv_sub hl [0, 1, 2, 3, 4] rfl)
  exact L_40 (202) (1) z lo up pk 0 H locs ls (by omega) (hz) (hZ) (hgT) rfl hP hD hS (lv_sub hl [0, 1, 2, 3, 4] rfl)
