set_option maxHeartbeats 4000000 in
set_option maxRecDepth 100000 in
theorem c_X4_play (l : Launch) (E : EE) (Sp : Nat → Nat) (Xp : Nat) (Cp : Nat → Nat) (sz nw : Int32) (pf : Nat → Int32) (Bp : Nat → Nat) (g z : Nat → Int32) (lo up pk : Int32) (Tp : Nat → Nat) (g2 z2 : Nat → Int32) (lo2 up2 pk2 : Int32) (Rp : Nat → Nat) (ln : Int32) (cd : Nat → Int32) (L : Nat) (hL : ln = nI L) (hL5 : L ≤ 50) (hc : ¬ icI cd L = 0) (hg : ∀ k, k < 15 → g k = z k) (hz : zOK z) (hZ : zZ z) (hrk : rOK sz nw) : GX l yX4_play wsX4_play 6 137 E Sp (wO Xp Bp Tp Cp Rp ++ (wH E Cp sz nw pf ++ (wP E Bp g z lo up pk ++ (wP E Tp g2 z2 lo2 up2 pk2 ++ (wR E Rp ln cd))))) [.ref Xp] (wO Xp Bp Tp Cp Rp ++ (wH E Cp (((plyL ln cd (L + 1) 0 1 0 0 0 g ((z, lo, up, pk), (sz, nw, pf))).2.2).2.1) (((plyL ln cd (L + 1) 0 1 0 0 0 g ((z, lo, up, pk), (sz, nw, pf))).2.2).2.2.1) (((plyL ln cd (L + 1) 0 1 0 0 0 g ((z, lo, up, pk), (sz, nw, pf))).2.2).2.2.2) ++ (wP E Bp ((plyL ln cd (L + 1) 0 1 0 0 0 g ((z, lo, up, pk), (sz, nw, pf))).2.1) (((plyL ln cd (L + 1) 0 1 0 0 0 g ((z, lo, up, pk), (sz, nw, pf))).2.2).1.1) (((plyL ln cd (L + 1) 0 1 0 0 0 g ((z, lo, up, pk), (sz, nw, pf))).2.2).1.2.1) (((plyL ln cd (L + 1) 0 1 0 0 0 g ((z, lo, up, pk), (sz, nw, pf))).2.2).1.2.2.1) (((plyL ln cd (L + 1) 0 1 0 0 0 g ((z, lo, up, pk), (sz, nw, pf))).2.2).1.2.2.2) ++ (wP E Tp g2 z2 lo2 up2 pk2 ++ (wR E Rp 0 cd))))) (some (.int (plyL ln cd (L + 1) 0 1 0 0 0 g ((z, lo, up, pk), (sz, nw, pf))).1)) := by
  intro sz
  refine Met.ofW (cc := cX4_play) (maxL := 7) (ret := (some .int)) (by decide) rfl ?_
  intro p e s m args below meth c s₁ B hml hv
  obtain ⟨⟨rfl, rfl, hP, hK, hD0, hN⟩, hX⟩ := hv
  have hx := B.exec
  have hb := B.bytes
  have hr := B.returns
  have hts := atoms_spec (ws := wsX4_play) B.pre
  have hown : s.vm.findClass RX4 = some m.cls := findClass_of_methodNamed B.named
  have hlocks := B.notSynchronized
  have hD := hD0.self (sz := s.heap.size)
  have hA : ∀ q : Nat, s.heap.size ≤ q → va_A (wO Xp Bp Tp Cp Rp ++ (wH E Cp sz nw pf ++ (wP E Bp g z lo up pk ++ (wP E Tp g2 z2 lo2 up2 pk2 ++ (wR E Rp ln cd))))) s.heap.size q := fun q h => Or.inr h
  have hS : va_S (va_A (wO Xp Bp Tp Cp Rp ++ (wH E Cp sz nw pf ++ (wP E Bp g z lo up pk ++ (wP E Tp g2 z2 lo2 up2 pk2 ++ (wR E Rp ln cd))))) s.heap.size) s.heap s.heap [] := va_S.rf
  have hl := lv_entry ([.ref Xp]) (n := 7) (Nat.le_of_ble_eq_true rfl)
  rw [lg_entry_eq]
  generalize (lg_sl ([.ref Xp]) ++ List.replicate (7 - (lg_sl ([.ref Xp])).length) Slot.unset).toArray = ls at hl ⊢
  have hl : lv_has ls 7 [(0, .ref Xp)] := hl
  have hf112 := hts (.fieldLink RX4 112 "PhaseConverter$Program" "length" "I") (List.mem_of_getElem? (i := 4) rfl)
  have hf31 := hts (.fieldLink RX4 31 "PhaseConverter" "program" "LPhaseConverter$Program;") (List.mem_of_getElem? (i := 3) rfl)
  have hiX3 : ∀ w ∈ u_ws RX3 TX3 2, w ∈ wsX4_play := memIn [197, 198] rfl
  have hiX4 : ∀ w ∈ u_ws RX4 TX4 4, w ∈ wsX4_play := memIn [193, 194, 195, 196] rfl
  refine lv_aload_n hx hb dX4_play_0 rfl (lv_at hl 0 rfl) ?_
  refine va_get (D := E.1) (ci := 4) (v := .ref (Rp 0)) (C := RX4) (T := TX4) (N := 4) hx hb hts hiX4 hown hK hP 0 rfl rfl 3 (by decide) hf31 (fun _ h9 => h9) rfl dX4_play_1 ?_
  refine gvMi (wO Xp Bp Tp Cp Rp ++ (wH E Cp sz nw pf ++ (wP E Bp g z lo up pk ++ (wP E Tp g2 z2 lo2 up2 pk2)))) ([] : va_W) (As := []) (rest := []) ⟨hx, hb, hml, hown, hts⟩ (c_X3_isComplete l E Rp ln cd L hL hL5) (cwV 0 hts gX4_play_X3_isComplete rfl rfl rfl (by decide +kernel) ⟨Nat.le_of_ble_eq_true rfl, Nat.le_of_ble_eq_true rfl⟩) (va_recv hK hP (ci := 3) (q0 := 17) rfl rfl) hP hK hD hN hS hA rfl hl.1 rfl (Nat.le_of_ble_eq_true rfl) dX4_play_4 ⟨Nat.le_refl _, Nat.le_refl _⟩ (fun H locs hP hD hS => ?_)
  have hP : va_P E.1 vwCl (wO Xp Bp Tp Cp Rp ++ (wH E Cp sz nw pf ++ (wP E Bp g z lo up pk ++ (wP E Tp g2 z2 lo2 up2 pk2 ++ (wR E Rp ln cd))))) H := hP
  have hD : va_D _ (wO Xp Bp Tp Cp Rp ++ (wH E Cp sz nw pf ++ (wP E Bp g z lo up pk ++ (wP E Tp g2 z2 lo2 up2 pk2 ++ (wR E Rp ln cd))))) := hD
  refine lv_if_ne (tgt := 20) hx hb dX4_play_7 (by decide) (fun c_7 => ?_) (fun c_7 => absurd c_7 hc)
  refine lv_iconst (v := 0) hx hb dX4_play_20 (by decide) ?_
  refine lv_istore_n (lv' := [(1, .int 0), (0, .ref Xp)]) hx hb dX4_play_21 rfl hl (by decide) rfl (fun ls hl => ?_)
  refine lv_iconst (v := 0) hx hb dX4_play_22 (by decide) ?_
  refine lv_istore_n (lv' := [(2, .int 0), (1, .int 0), (0, .ref Xp)]) hx hb dX4_play_23 rfl hl (by decide) rfl (fun ls hl => ?_)
  refine lv_iconst (v := 0) hx hb dX4_play_24 (by decide) ?_
  refine lv_istore_n (lv' := [(3, .int 0), (2, .int 0), (1, .int 0), (0, .ref Xp)]) hx hb dX4_play_25 rfl hl (by decide) rfl (fun ls hl => ?_)
  refine lv_iconst (v := 1) hx hb dX4_play_26 (by decide) ?_
  refine lv_istore (lv' := [(4, .int 1), (3, .int 0), (2, .int 0), (1, .int 0), (0, .ref Xp)]) hx hb dX4_play_27 hl (by decide) rfl (fun ls hl => ?_)
  refine lv_iconst (v := 0) hx hb dX4_play_29 (by decide) ?_
  refine lv_istore (lv' := [(5, .int 0), (4, .int 1), (3, .int 0), (2, .int 0), (1, .int 0), (0, .ref Xp)]) hx hb dX4_play_30 hl (by decide) rfl (fun ls hl => ?_)
  have L_32 : ∀ (n i : Nat) (g3 : Nat → Int32) (z3 : Nat → Int32) (l3 : Int32) (u3 : Int32) (q3 : Int32) (s3 : Int32) (n3 : Int32) (f3 : Nat → Int32) (c3 : Int32) (a3 : Int32) (b3 : Int32) (p3 : Int32) (H : Heap) (locs : List Loc) (ls : Array Slot), (i + n = L + 1) → (tOK g3 ((z3, l3, u3, q3), (s3, n3, f3))) → (plyL ln cd n i p3 c3 a3 b3 g3 ((z3, l3, u3, q3), (s3, n3, f3)) = plyL ln cd (L + 1) 0 1 0 0 0 g ((z, lo, up, pk), (sz, nw, pf))) → va_P E.1 vwCl (wO Xp Bp Tp Cp Rp ++ (wH E Cp s3 n3 f3 ++ (wP E Bp g3 z3 l3 u3 q3 ++ (wP E Tp g2 z2 lo2 up2 pk2 ++ (wR E Rp ln cd))))) H → va_D (va_A (wO Xp Bp Tp Cp Rp ++ (wH E Cp sz nw pf ++ (wP E Bp g z lo up pk ++ (wP E Tp g2 z2 lo2 up2 pk2 ++ (wR E Rp ln cd))))) s.heap.size) (wO Xp Bp Tp Cp Rp ++ (wH E Cp s3 n3 f3 ++ (wP E Bp g3 z3 l3 u3 q3 ++ (wP E Tp g2 z2 lo2 up2 pk2 ++ (wR E Rp ln cd))))) → va_S (va_A (wO Xp Bp Tp Cp Rp ++ (wH E Cp sz nw pf ++ (wP E Bp g z lo up pk ++ (wP E Tp g2 z2 lo2 up2 pk2 ++ (wR E Rp ln cd))))) s.heap.size) s.heap H locs → lv_has ls 7 [(5, .int (nI i)), (4, .int p3), (3, .int b3), (2, .int a3), (1, .int c3), (0, .ref Xp)] → W p l e (gR wsX4_play 6 137) s m ([.ref Xp] : List Value).toArray below meth c H locs 0 0 (gMQ below E s (wO Xp Bp Tp Cp Rp ++ (wH E Cp sz nw pf ++ (wP E Bp g z lo up pk ++ (wP E Tp g2 z2 lo2 up2 pk2 ++ (wR E Rp ln cd))))) (wO Xp Bp Tp Cp Rp ++ (wH E Cp (((plyL ln cd (L + 1) 0 1 0 0 0 g ((z, lo, up, pk), (sz, nw, pf))).2.2).2.1) (((plyL ln cd (L + 1) 0 1 0 0 0 g ((z, lo, up, pk), (sz, nw, pf))).2.2).2.2.1) (((plyL ln cd (L + 1) 0 1 0 0 0 g ((z, lo, up, pk), (sz, nw, pf))).2.2).2.2.2) ++ (wP E Bp ((plyL ln cd (L + 1) 0 1 0 0 0 g ((z, lo, up, pk), (sz, nw, pf))).2.1) (((plyL ln cd (L + 1) 0 1 0 0 0 g ((z, lo, up, pk), (sz, nw, pf))).2.2).1.1) (((plyL ln cd (L + 1) 0 1 0 0 0 g ((z, lo, up, pk), (sz, nw, pf))).2.2).1.2.1) (((plyL ln cd (L + 1) 0 1 0 0 0 g ((z, lo, up, pk), (sz, nw, pf))).2.2).1.2.2.1) (((plyL ln cd (L + 1) 0 1 0 0 0 g ((z, lo, up, pk), (sz, nw, pf))).2.2).1.2.2.2) ++ (wP E Tp g2 z2 lo2 up2 pk2 ++ (wR E Rp 0 cd))))) (some (.int (plyL ln cd (L + 1) 0 1 0 0 0 g ((z, lo, up, pk), (sz, nw, pf))).1)) [.ref Xp]) (F0 m 32 ls []) := by
    intro n
    induction n with
    | zero =>
      intro i g3 z3 l3 u3 q3 s3 n3 f3 c3 a3 b3 p3 H locs ls hin h3 hfn hP hD hS hl
      refine lv_iload hx hb dX4_play_32 (lv_at hl 0 rfl) ?_
      refine lv_aload_n hx hb dX4_play_34 rfl (lv_at hl 5 rfl) ?_
      refine va_get (D := E.1) (ci := 4) (v := .ref (Rp 0)) (C := RX4) (T := TX4) (N := 4) hx hb hts hiX4 hown hK hP 0 rfl rfl 3 (by decide) hf31 (fun _ h9 => h9) rfl dX4_play_35 ?_
      refine va_get (D := E.1) (ci := 3) (v := .int ln) (C := RX3) (T := TX3) (N := 2) hx hb hts hiX3 hown hK hP 17 rfl rfl 1 (by decide) hf112 (fun _ h9 => h9) rfl dX4_play_38 ?_
      refine lv_icmp_gt (tgt := 142) hx hb dX4_play_41 (by decide) (fun c_41 => ?_) (fun c_41 => absurd (by rw [hL]; exact nI_lt (by omega) (by omega)) c_41)
      have hf : (c3, g3, ((z3, l3, u3, q3), (s3, n3, f3))) = plyL ln cd (L + 1) 0 1 0 0 0 g ((z, lo, up, pk), (sz, nw, pf)) := by first | exact hfn | rw [← hfn, plyL_s, if_pos c_46]
      refine lv_aload_n hx hb dX4_play_142 rfl (lv_at hl 5 rfl) ?_
      refine va_get (D := E.1) (ci := 4) (v := .ref (Rp 0)) (C := RX4) (T := TX4) (N := 4) hx hb hts hiX4 hown hK hP 0 rfl rfl 3 (by decide) hf31 (fun _ h9 => h9) rfl dX4_play_143 ?_
      refine lv_iconst (v := 0) hx hb dX4_play_146 (by decide) ?_
      refine va_put (D := E.1) (ci := 3) (v := .int 0) (ty := .int) (C := RX3) (T := TX3) (N := 2) hx hb hts hiX3 tyX3 tyX3_ok nmX3 hown hK hP hD hS 17 rfl rfl 1 (by decide) hf112 (fun _ h9 => h9) rfl (by decide +kernel) rfl rfl (Nat.le_of_ble_eq_true rfl) dX4_play_147 (fun H locs hP hD hS => ?_)
      have hP : va_P E.1 vwCl (wO Xp Bp Tp Cp Rp ++ (wH E Cp s3 n3 f3 ++ (wP E Bp g3 z3 l3 u3 q3 ++ (wP E Tp g2 z2 lo2 up2 pk2 ++ (wR E Rp 0 cd))))) H := hP
      have hD : va_D _ (wO Xp Bp Tp Cp Rp ++ (wH E Cp s3 n3 f3 ++ (wP E Bp g3 z3 l3 u3 q3 ++ (wP E Tp g2 z2 lo2 up2 pk2 ++ (wR E Rp 0 cd))))) := hD
      refine lv_iload_n hx hb dX4_play_150 rfl (lv_at hl 4 rfl) ?_
      exact greti hx hb hr hlocks hP hD hS (congrArg Prod.fst hf) (by rw [← hf]) dX4_play_151
    | succ n ih =>
      intro i g3 z3 l3 u3 q3 s3 n3 f3 c3 a3 b3 p3 H locs ls hin h3 hfn hP hD hS hl
      refine lv_iload hx hb dX4_play_32 (lv_at hl 0 rfl) ?_
      refine lv_aload_n hx hb dX4_play_34 rfl (lv_at hl 5 rfl) ?_
      refine va_get (D := E.1) (ci := 4) (v := .ref (Rp 0)) (C := RX4) (T := TX4) (N := 4) hx hb hts hiX4 hown hK hP 0 rfl rfl 3 (by decide) hf31 (fun _ h9 => h9) rfl dX4_play_35 ?_
      refine va_get (D := E.1) (ci := 3) (v := .int ln) (C := RX3) (T := TX3) (N := 2) hx hb hts hiX3 hown hK hP 17 rfl rfl 1 (by decide) hf112 (fun _ h9 => h9) rfl dX4_play_38 ?_
      refine lv_icmp_gt (tgt := 142) hx hb dX4_play_41 (by decide) (fun c_41 => absurd c_41 (by rw [hL]; exact nI_nlt (by omega) (by omega))) (fun c_41 => ?_)
      refine lv_iload hx hb dX4_play_44 (lv_at hl 1 rfl) ?_
      refine lv_if_eq (tgt := 142) hx hb dX4_play_46 (by decide) (fun c_46 => ?_) (fun c_46 => ?_)
      · have hf : (c3, g3, ((z3, l3, u3, q3), (s3, n3, f3))) = plyL ln cd (L + 1) 0 1 0 0 0 g ((z, lo, up, pk), (sz, nw, pf)) := by first | exact hfn | rw [← hfn, plyL_s, if_pos c_46]
        refine lv_aload_n hx hb dX4_play_142 rfl (lv_at hl 5 rfl) ?_
        refine va_get (D := E.1) (ci := 4) (v := .ref (Rp 0)) (C := RX4) (T := TX4) (N := 4) hx hb hts hiX4 hown hK hP 0 rfl rfl 3 (by decide) hf31 (fun _ h9 => h9) rfl dX4_play_143 ?_
        refine lv_iconst (v := 0) hx hb dX4_play_146 (by decide) ?_
        refine va_put (D := E.1) (ci := 3) (v := .int 0) (ty := .int) (C := RX3) (T := TX3) (N := 2) hx hb hts hiX3 tyX3 tyX3_ok nmX3 hown hK hP hD hS 17 rfl rfl 1 (by decide) hf112 (fun _ h9 => h9) rfl (by decide +kernel) rfl rfl (Nat.le_of_ble_eq_true rfl) dX4_play_147 (fun H locs hP hD hS => ?_)
        have hP : va_P E.1 vwCl (wO Xp Bp Tp Cp Rp ++ (wH E Cp s3 n3 f3 ++ (wP E Bp g3 z3 l3 u3 q3 ++ (wP E Tp g2 z2 lo2 up2 pk2 ++ (wR E Rp 0 cd))))) H := hP
        have hD : va_D _ (wO Xp Bp Tp Cp Rp ++ (wH E Cp s3 n3 f3 ++ (wP E Bp g3 z3 l3 u3 q3 ++ (wP E Tp g2 z2 lo2 up2 pk2 ++ (wR E Rp 0 cd))))) := hD
        refine lv_iload_n hx hb dX4_play_150 rfl (lv_at hl 4 rfl) ?_
        exact greti hx hb hr hlocks hP hD hS (congrArg Prod.fst hf) (by rw [← hf]) dX4_play_151
      · refine lv_iload hx hb dX4_play_49 (lv_at hl 0 rfl) ?_
        refine lv_aload_n hx hb dX4_play_51 rfl (lv_at hl 5 rfl) ?_
        refine va_get (D := E.1) (ci := 4) (v := .ref (Rp 0)) (C := RX4) (T := TX4) (N := 4) hx hb hts hiX4 hown hK hP 0 rfl rfl 3 (by decide) hf31 (fun _ h9 => h9) rfl dX4_play_52 ?_
        refine va_get (D := E.1) (ci := 3) (v := .int ln) (C := RX3) (T := TX3) (N := 2) hx hb hts hiX3 hown hK hP 17 rfl rfl 1 (by decide) hf112 (fun _ h9 => h9) rfl dX4_play_55 ?_
        obtain ⟨x_1, ex_1⟩ : ∃ y : Int32, y = (if ln ≤ (nI i) then 44 else cd i) := ⟨_, rfl⟩
        have fx : x_1 = plX ln cd i := ex_1
        have J_58 : ∀ (H : Heap) (locs : List Loc) (ls : Array Slot), va_P E.1 vwCl (wO Xp Bp Tp Cp Rp ++ (wH E Cp s3 n3 f3 ++ (wP E Bp g3 z3 l3 u3 q3 ++ (wP E Tp g2 z2 lo2 up2 pk2 ++ (wR E Rp ln cd))))) H → va_D (va_A (wO Xp Bp Tp Cp Rp ++ (wH E Cp sz nw pf ++ (wP E Bp g z lo up pk ++ (wP E Tp g2 z2 lo2 up2 pk2 ++ (wR E Rp ln cd))))) s.heap.size) (wO Xp Bp Tp Cp Rp ++ (wH E Cp s3 n3 f3 ++ (wP E Bp g3 z3 l3 u3 q3 ++ (wP E Tp g2 z2 lo2 up2 pk2 ++ (wR E Rp ln cd))))) → va_S (va_A (wO Xp Bp Tp Cp Rp ++ (wH E Cp sz nw pf ++ (wP E Bp g z lo up pk ++ (wP E Tp g2 z2 lo2 up2 pk2 ++ (wR E Rp ln cd))))) s.heap.size) s.heap H locs → lv_has ls 7 [(5, .int (nI i)), (4, .int p3), (3, .int b3), (2, .int a3), (1, .int c3), (0, .ref Xp)] → W p l e (gR wsX4_play 6 137) s m ([.ref Xp] : List Value).toArray below meth c H locs 0 0 (gMQ below E s (wO Xp Bp Tp Cp Rp ++ (wH E Cp sz nw pf ++ (wP E Bp g z lo up pk ++ (wP E Tp g2 z2 lo2 up2 pk2 ++ (wR E Rp ln cd))))) (wO Xp Bp Tp Cp Rp ++ (wH E Cp (((plyL ln cd (L + 1) 0 1 0 0 0 g ((z, lo, up, pk), (sz, nw, pf))).2.2).2.1) (((plyL ln cd (L + 1) 0 1 0 0 0 g ((z, lo, up, pk), (sz, nw, pf))).2.2).2.2.1) (((plyL ln cd (L + 1) 0 1 0 0 0 g ((z, lo, up, pk), (sz, nw, pf))).2.2).2.2.2) ++ (wP E Bp ((plyL ln cd (L + 1) 0 1 0 0 0 g ((z, lo, up, pk), (sz, nw, pf))).2.1) (((plyL ln cd (L + 1) 0 1 0 0 0 g ((z, lo, up, pk), (sz, nw, pf))).2.2).1.1) (((plyL ln cd (L + 1) 0 1 0 0 0 g ((z, lo, up, pk), (sz, nw, pf))).2.2).1.2.1) (((plyL ln cd (L + 1) 0 1 0 0 0 g ((z, lo, up, pk), (sz, nw, pf))).2.2).1.2.2.1) (((plyL ln cd (L + 1) 0 1 0 0 0 g ((z, lo, up, pk), (sz, nw, pf))).2.2).1.2.2.2) ++ (wP E Tp g2 z2 lo2 up2 pk2 ++ (wR E Rp 0 cd))))) (some (.int (plyL ln cd (L + 1) 0 1 0 0 0 g ((z, lo, up, pk), (sz, nw, pf))).1)) [.ref Xp]) (F0 m 75 ls [.int x_1]) := by
          intro H locs ls hP hD hS hl
          refine lv_istore (lv' := [(6, .int x_1), (5, .int (nI i)), (4, .int p3), (3, .int b3), (2, .int a3), (1, .int c3), (0, .ref Xp)]) hx hb dX4_play_75 hl (by decide) rfl (fun ls hl => ?_)
          refine lv_iload hx hb dX4_play_77 (lv_at hl 0 rfl) ?_
          refine lv_bipush (v := 44) hx hb dX4_play_79 (by decide) ?_
          refine lv_icmp_ne (tgt := 111) hx hb dX4_play_81 (by decide) (fun c_81 => ?_) (fun c_81 => ?_)
          · refine lv_iload hx hb dX4_play_111 (lv_at hl 0 rfl) ?_
            refine gsPi (As := [.int x_1]) (rest := []) ⟨hx, hb, hml, hown, hts⟩ (c_X4_isDigit l E x_1) (va_cwS 1 hts gX4_play_X4_isDigit rfl rfl rfl (by decide +kernel) ⟨Nat.le_of_ble_eq_true rfl, Nat.le_of_ble_eq_true rfl⟩) hP hK hD hN hS hA rfl hl.1 rfl (Nat.le_of_ble_eq_true rfl) dX4_play_113 ⟨Nat.le_refl _, Nat.le_refl _⟩ (fun H locs hP hD hS => ?_)
            refine lv_if_eq (tgt := 133) hx hb dX4_play_116 (by decide) (fun c_116 => ?_) (fun c_116 => ?_)
            · refine lv_iload hx hb dX4_play_133 (lv_at hl 0 rfl) ?_
              refine lv_istore_n (lv' := [(2, .int x_1), (6, .int x_1), (5, .int (nI i)), (4, .int p3), (3, .int b3), (1, .int c3), (0, .ref Xp)]) hx hb dX4_play_135 rfl hl (by decide) rfl (fun ls hl => ?_)
              refine lv_iinc (v := nI (i + 1)) (lv' := [(5, .int (nI (i + 1))), (2, .int x_1), (6, .int x_1), (4, .int p3), (3, .int b3), (1, .int c3), (0, .ref Xp)]) hx hb dX4_play_136 hl (k := 2) rfl (nI_1 _) (by decide) rfl (fun ls hl => ?_)
              refine lv_goto (tgt := 32) hx hb dX4_play_139 (by decide) ?_
              exact ih (i + 1) g3 z3 l3 u3 q3 s3 n3 f3 c3 x_1 b3 p3 H locs ls (by omega) (by first | exact h3 | exact coF_OK c_94 h3) (by rw [← hfn, plyL_s, if_neg c_46, ← fx]; first | rw [if_pos c_81, if_pos c_94] | rw [if_pos c_81, if_neg c_94] | rw [if_neg c_81, if_neg c_116] | rw [if_neg c_81, if_pos c_116]) hP hD hS (lv_sub hl [0, 3, 4, 1, 5, 6] rfl)
            · refine lv_bipush (v := 10) hx hb dX4_play_119 (by decide) ?_
              refine lv_iload_n hx hb dX4_play_121 rfl (lv_at hl 3 rfl) ?_
              refine lv_imul hx hb dX4_play_122 ?_
              refine lv_iload hx hb dX4_play_123 (lv_at hl 0 rfl) ?_
              refine lv_iadd hx hb dX4_play_125 ?_
              refine lv_bipush (v := 48) hx hb dX4_play_126 (by decide) ?_
              refine lv_isub hx hb dX4_play_128 ?_
              refine lv_istore_n (lv' := [(3, .int (((10 * b3) + x_1) - 48)), (6, .int x_1), (5, .int (nI i)), (4, .int p3), (2, .int a3), (1, .int c3), (0, .ref Xp)]) hx hb dX4_play_129 rfl hl (by decide) rfl (fun ls hl => ?_)
              refine lv_goto (tgt := 136) hx hb dX4_play_130 (by decide) ?_
              refine lv_iinc (v := nI (i + 1)) (lv' := [(5, .int (nI (i + 1))), (3, .int (((10 * b3) + x_1) - 48)), (6, .int x_1), (4, .int p3), (2, .int a3), (1, .int c3), (0, .ref Xp)]) hx hb dX4_play_136 hl (k := 2) rfl (nI_1 _) (by decide) rfl (fun ls hl => ?_)
              refine lv_goto (tgt := 32) hx hb dX4_play_139 (by decide) ?_
              exact ih (i + 1) g3 z3 l3 u3 q3 s3 n3 f3 c3 a3 (((10 * b3) + x_1) - 48) p3 H locs ls (by omega) (by first | exact h3 | exact coF_OK c_94 h3) (by rw [← hfn, plyL_s, if_neg c_46, ← fx]; first | rw [if_pos c_81, if_pos c_94] | rw [if_pos c_81, if_neg c_94] | rw [if_neg c_81, if_neg c_116] | rw [if_neg c_81, if_pos c_116]) hP hD hS (lv_sub hl [0, 3, 1, 4, 5, 6] rfl)
          · refine lv_aload_n hx hb dX4_play_84 rfl (lv_at hl 6 rfl) ?_
            refine lv_iload_n hx hb dX4_play_85 rfl (lv_at hl 4 rfl) ?_
            refine lv_iload_n hx hb dX4_play_86 rfl (lv_at hl 3 rfl) ?_
            refine xv0i (As := [.int a3, .int b3]) (rest := []) ⟨hx, hb, hml, hown, hts⟩ (c_X4_isPossible l E Sp Xp Cp s3 n3 f3 Bp g3 z3 l3 u3 q3 Tp g2 z2 lo2 up2 pk2 Rp ln cd a3 b3) (cwV 2 hts gX4_play_X4_isPossible rfl rfl rfl (by decide +kernel) ⟨Nat.le_of_ble_eq_true rfl, Nat.le_of_ble_eq_true rfl⟩) (va_recv hK hP (ci := 4) (q0 := 0) rfl rfl) hP hK hD hN hX hS hA rfl hl.1 rfl (Nat.le_of_ble_eq_true rfl) dX4_play_87 ⟨Nat.le_refl _, Nat.le_refl _⟩ (fun H locs hP hD hS => ?_)
            have hP : va_P E.1 vwCl (wO Xp Bp Tp Cp Rp ++ (wH E Cp s3 n3 f3 ++ (wP E Bp g3 z3 l3 u3 q3 ++ (wP E Tp g2 z2 lo2 up2 pk2 ++ (wR E Rp ln cd))))) H := hP
            have hD : va_D _ (wO Xp Bp Tp Cp Rp ++ (wH E Cp s3 n3 f3 ++ (wP E Bp g3 z3 l3 u3 q3 ++ (wP E Tp g2 z2 lo2 up2 pk2 ++ (wR E Rp ln cd))))) := hD
            refine lv_istore (lv' := [(4, .int (posI a3 b3 z3)), (6, .int x_1), (5, .int (nI i)), (3, .int b3), (2, .int a3), (1, .int c3), (0, .ref Xp)]) hx hb dX4_play_90 hl (by decide) rfl (fun ls hl => ?_)
            refine lv_iload hx hb dX4_play_92 (lv_at hl 0 rfl) ?_
            refine lv_if_eq (tgt := 106) hx hb dX4_play_94 (by decide) (fun c_94 => ?_) (fun c_94 => ?_)
            · refine lv_iconst (v := 0) hx hb dX4_play_106 (by decide) ?_
              refine lv_istore_n (lv' := [(3, .int 0), (4, .int (posI a3 b3 z3)), (6, .int x_1), (5, .int (nI i)), (2, .int a3), (1, .int c3), (0, .ref Xp)]) hx hb dX4_play_107 rfl hl (by decide) rfl (fun ls hl => ?_)
              refine lv_goto (tgt := 136) hx hb dX4_play_108 (by decide) ?_
              refine lv_iinc (v := nI (i + 1)) (lv' := [(5, .int (nI (i + 1))), (3, .int 0), (4, .int (posI a3 b3 z3)), (6, .int x_1), (2, .int a3), (1, .int c3), (0, .ref Xp)]) hx hb dX4_play_136 hl (k := 3) rfl (nI_1 _) (by decide) rfl (fun ls hl => ?_)
              refine lv_goto (tgt := 32) hx hb dX4_play_139 (by decide) ?_
              exact ih (i + 1) g3 z3 l3 u3 q3 s3 n3 f3 c3 a3 0 (posI a3 b3 z3) H locs ls (by omega) (by first | exact h3 | exact coF_OK c_94 h3) (by rw [← hfn, plyL_s, if_neg c_46, ← fx]; first | rw [if_pos c_81, if_pos c_94] | rw [if_pos c_81, if_neg c_94] | rw [if_neg c_81, if_neg c_116] | rw [if_neg c_81, if_pos c_116]) hP hD hS (lv_sub hl [0, 2, 1, 4, 5, 6] rfl)
            · refine lv_aload_n hx hb dX4_play_97 rfl (lv_at hl 6 rfl) ?_
              refine lv_iload_n hx hb dX4_play_98 rfl (lv_at hl 4 rfl) ?_
              refine lv_iload_n hx hb dX4_play_99 rfl (lv_at hl 3 rfl) ?_
              refine gv0v (As := [.int a3, .int b3]) (rest := []) ⟨hx, hb, hml, hown, hts⟩ (c_X4_carryOut l E Xp Cp s3 n3 f3 Bp g3 z3 l3 u3 q3 Tp g2 z2 lo2 up2 pk2 Rp ln cd a3 b3 c_94 h3.2.2.1 h3.1 h3.2.1 h3.2.2.2) (cwV 2 hts gX4_play_X4_carryOut rfl rfl rfl (by decide +kernel) ⟨Nat.le_of_ble_eq_true rfl, Nat.le_of_ble_eq_true rfl⟩) (va_recv hK hP (ci := 4) (q0 := 0) rfl rfl) hP hK hD hN hS hA rfl hl.1 rfl (Nat.le_of_ble_eq_true rfl) dX4_play_100 ⟨Nat.le_refl _, Nat.le_refl _⟩ (fun H locs hP hD hS => ?_)
              have hP : va_P E.1 vwCl (wO Xp Bp Tp Cp Rp ++ (wH E Cp ((coF a3 b3 ((z3, l3, u3, q3), (s3, n3, f3))).2.1) ((coF a3 b3 ((z3, l3, u3, q3), (s3, n3, f3))).2.2.1) ((coF a3 b3 ((z3, l3, u3, q3), (s3, n3, f3))).2.2.2) ++ (wP E Bp (coG a3 b3 g3) ((coF a3 b3 ((z3, l3, u3, q3), (s3, n3, f3))).1.1) ((coF a3 b3 ((z3, l3, u3, q3), (s3, n3, f3))).1.2.1) ((coF a3 b3 ((z3, l3, u3, q3), (s3, n3, f3))).1.2.2.1) ((coF a3 b3 ((z3, l3, u3, q3), (s3, n3, f3))).1.2.2.2) ++ (wP E Tp g2 z2 lo2 up2 pk2 ++ (wR E Rp ln cd))))) H := hP
              have hD : va_D _ (wO Xp Bp Tp Cp Rp ++ (wH E Cp ((coF a3 b3 ((z3, l3, u3, q3), (s3, n3, f3))).2.1) ((coF a3 b3 ((z3, l3, u3, q3), (s3, n3, f3))).2.2.1) ((coF a3 b3 ((z3, l3, u3, q3), (s3, n3, f3))).2.2.2) ++ (wP E Bp (coG a3 b3 g3) ((coF a3 b3 ((z3, l3, u3, q3), (s3, n3, f3))).1.1) ((coF a3 b3 ((z3, l3, u3, q3), (s3, n3, f3))).1.2.1) ((coF a3 b3 ((z3, l3, u3, q3), (s3, n3, f3))).1.2.2.1) ((coF a3 b3 ((z3, l3, u3, q3), (s3, n3, f3))).1.2.2.2) ++ (wP E Tp g2 z2 lo2 up2 pk2 ++ (wR E Rp ln cd))))) := hD
              refine lv_iinc (v := c3 + 1) (lv' := [(1, .int (c3 + 1)), (4, .int (posI a3 b3 z3)), (6, .int x_1), (5, .int (nI i)), (3, .int b3), (2, .int a3), (0, .ref Xp)]) hx hb dX4_play_103 hl (k := 5) rfl rfl (by decide) rfl (fun ls hl => ?_)
              refine lv_iconst (v := 0) hx hb dX4_play_106 (by decide) ?_
              refine lv_istore_n (lv' := [(3, .int 0), (1, .int (c3 + 1)), (4, .int (posI a3 b3 z3)), (6, .int x_1), (5, .int (nI i)), (2, .int a3), (0, .ref Xp)]) hx hb dX4_play_107 rfl hl (by decide) rfl (fun ls hl => ?_)
              refine lv_goto (tgt := 136) hx hb dX4_play_108 (by decide) ?_
              refine lv_iinc (v := nI (i + 1)) (lv' := [(5, .int (nI (i + 1))), (3, .int 0), (1, .int (c3 + 1)), (4, .int (posI a3 b3 z3)), (6, .int x_1), (2, .int a3), (0, .ref Xp)]) hx hb dX4_play_136 hl (k := 4) rfl (nI_1 _) (by decide) rfl (fun ls hl => ?_)
              refine lv_goto (tgt := 32) hx hb dX4_play_139 (by decide) ?_
              exact ih (i + 1) (coG a3 b3 g3) ((coF a3 b3 ((z3, l3, u3, q3), (s3, n3, f3))).1.1) ((coF a3 b3 ((z3, l3, u3, q3), (s3, n3, f3))).1.2.1) ((coF a3 b3 ((z3, l3, u3, q3), (s3, n3, f3))).1.2.2.1) ((coF a3 b3 ((z3, l3, u3, q3), (s3, n3, f3))).1.2.2.2) ((coF a3 b3 ((z3, l3, u3, q3), (s3, n3, f3))).2.1) ((coF a3 b3 ((z3, l3, u3, q3), (s3, n3, f3))).2.2.1) ((coF a3 b3 ((z3, l3, u3, q3), (s3, n3, f3))).2.2.2) (c3 + 1) a3 0 (posI a3 b3 z3) H locs ls (by omega) (by first | exact h3 | exact coF_OK c_94 h3) (by rw [← hfn, plyL_s, if_neg c_46, ← fx]; first | rw [if_pos c_81, if_pos c_94] | rw [if_pos c_81, if_neg c_94] | rw [if_neg c_81, if_neg c_116] | rw [if_neg c_81, if_pos c_116]) hP hD hS (lv_sub hl [0, 3, 1, 5, 2, 6] rfl)
        refine lv_icmp_ge (tgt := 73) hx hb dX4_play_58 (by decide) (fun c_58 => ?_) (fun c_58 => ?_)
        · refine lv_bipush (v := 44) hx hb dX4_play_73 (by decide) ?_
          refine W.eq (g2 := F0 m 75 ls [.int x_1]) (by rw [ex_1]; simp only [if_pos c_58]) ?_
          exact J_58 H locs ls (hP) (hD) hS (lv_sub hl [0, 1, 2, 3, 4, 5] rfl)
        · have hiL : i < L := by rcases Nat.lt_or_ge i L with q9 | q9; exact q9; exact absurd (by rw [hL]; exact nI_le q9 (by omega)) c_58
          refine lv_aload_n hx hb dX4_play_61 rfl (lv_at hl 5 rfl) ?_
          refine va_get (D := E.1) (ci := 4) (v := .ref (Rp 0)) (C := RX4) (T := TX4) (N := 4) hx hb hts hiX4 hown hK hP 0 rfl rfl 3 (by decide) hf31 (fun _ h9 => h9) rfl dX4_play_62 ?_
          refine lv_iload hx hb dX4_play_65 (lv_at hl 0 rfl) ?_
          refine gvMi (wO Xp Bp Tp Cp Rp ++ (wH E Cp s3 n3 f3 ++ (wP E Bp g3 z3 l3 u3 q3 ++ (wP E Tp g2 z2 lo2 up2 pk2)))) ([] : va_W) (As := [.int (nI i)]) (rest := []) ⟨hx, hb, hml, hown, hts⟩ (c_X3_codeAt l E Rp ln cd i (by omega)) (cwV 1 hts gX4_play_X3_codeAt rfl rfl rfl (by decide +kernel) ⟨Nat.le_of_ble_eq_true rfl, Nat.le_of_ble_eq_true rfl⟩) (va_recv hK hP (ci := 3) (q0 := 17) rfl rfl) hP hK hD hN hS hA rfl hl.1 rfl (Nat.le_of_ble_eq_true rfl) dX4_play_67 ⟨Nat.le_refl _, Nat.le_refl _⟩ (fun H locs hP hD hS => ?_)
          have hP : va_P E.1 vwCl (wO Xp Bp Tp Cp Rp ++ (wH E Cp s3 n3 f3 ++ (wP E Bp g3 z3 l3 u3 q3 ++ (wP E Tp g2 z2 lo2 up2 pk2 ++ (wR E Rp ln cd))))) H := hP
          have hD : va_D _ (wO Xp Bp Tp Cp Rp ++ (wH E Cp s3 n3 f3 ++ (wP E Bp g3 z3 l3 u3 q3 ++ (wP E Tp g2 z2 lo2 up2 pk2 ++ (wR E Rp ln cd))))) := hD
          refine lv_goto (tgt := 75) hx hb dX4_play_70 (by decide) ?_
          refine W.eq (g2 := F0 m 75 ls [.int x_1]) (by rw [ex_1]; simp only [if_neg c_58]) ?_
          exact J_58 H locs ls (hP) (hD) hS (lv_sub hl [0, 1, 2, 3, 4, 5] rfl)
  exact L_32 (L + 1) (0) g z lo up pk sz nw pf 0 0 0 1 H locs ls (by omega) (⟨hz, hZ, hg, hrk⟩) rfl hP hD hS (lv_sub hl [0, 1, 2, 3, 4, 5] rfl)
