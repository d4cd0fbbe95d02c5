set_option maxHeartbeats 4000000 in
set_option maxRecDepth 100000 in
theorem c_X4_play (l : Launch) (E : EE) (Sp : Nat → Nat) (Xp : Nat) (Cp : Nat → Nat) (sz nw : Int32) (pf : Nat → Int32) (Bp : Nat → Nat) (g z : Nat → Int32) (lo up pk : Int32) (Tp : Nat → Nat) (g2 z2 : Nat → Int32) (lo2 up2 pk2 : Int32) (Rp : Nat → Nat) (ln : Int32) (cd : Nat → Int32) (L : Nat) (hL : ln = nI L) (hL5 : L ≤ 50) (hc : ¬ icI cd L = 0) (hg : ∀ k, k < 15 → g k = z k) (hz : zOK z) (hZ : zZ z) (hrk : rOK sz nw) : GX l yX4_play wsX4_play 6 137 E Sp (wO Xp Bp Tp Cp Rp ++ (wH E Cp sz nw pf ++ (wP E Bp g z lo up pk ++ (wP E Tp g2 z2 lo2 up2 pk2 ++ (wR E Rp ln cd))))) [.ref Xp] (wO Xp Bp Tp Cp Rp ++ (wH E Cp (((plyL ln cd (L + 1) 0 1 0 0 0 g ((z, lo, up, pk), (sz, nw, pf))).2.2).2.1) (((plyL ln cd (L + 1) 0 1 0 0 0 g ((z, lo, up, pk), (sz, nw, pf))).2.2).2.2.1) (((plyL ln cd (L + 1) 0 1 0 0 0 g ((z, lo, up, pk), (sz, nw, pf))).2.2).2.2.2) ++ (wP E Bp ((plyL ln cd (L + 1) 0 1 0 0 0 g ((z, lo, up, pk), (sz, nw, pf))).2.1) (((plyL ln cd (L + 1) 0 1 0 0 0 g ((z, lo, up, pk), (sz, nw, pf))).2.2).1.1) (((plyL ln cd (L + 1) 0 1 0 0 0 g ((z, lo, up, pk), (sz, nw, pf))).2.2).1.2.1) (((plyL ln cd (L + 1) 0 1 0 0 0 g ((z, lo, up, pk), (sz, nw, pf))).2.2).1.2.2.1) (((plyL ln cd (L + 1) 0 1 0 0 0 g ((z, lo, up, pk), (sz, nw, pf))).2.2).1.2.2.2) ++ (wP E Tp g2 z2 lo2 up2 pk2 ++ (wR E Rp 0 cd))))) (some (.int (plyL ln cd (L + 1) 0 1 0 0 0 g ((z, lo, up, pk), (sz, nw, pf))).1)) := by
  intro sz
  refine Met.ofW (cc := cX4_play) (maxL := 7) (ret := (some .int)) (by decide) rfl ?_
  intro p e s m args below meth c s₁ B hml hv
  obtain ⟨⟨rfl, rfl, hP, hK, hD0, hN⟩, hX⟩ := hv
  have hx := B.exec
  have hb := B.bytes
  have hr := B.returns
  have hts := atoms_spec (ws := wsX4_play) B.pre
  have hown : s.vm.findClass RX4 = some m.cls := findClass_of_methodNamed B.named
  have hlocks := B.notSynchronized
  have hD := hD0.self (sz := s.heap.size)
  have hA : ∀ q : Nat, s.heap.size ≤ q → va_A (wO Xp Bp Tp Cp Rp ++ (wH E Cp sz nw pf ++ (wP E Bp g z lo up pk ++ (wP E Tp g2 z2 lo2 up2 pk2 ++ (wR E Rp ln cd))))) s.heap.size q := fun q h => Or.inr h
  have hS : va_S (va_A (wO Xp Bp Tp Cp Rp ++ (wH E Cp sz nw pf ++ (wP E Bp g z lo up pk ++ (wP E Tp g2 z2 lo2 up2 pk2 ++ (wR E Rp ln cd))))) s.heap.size) s.heap s.heap [] := va_S.rf
  have hl := lv_entry ([.ref Xp]) (n := 7) (Nat.le_of_ble_eq_true rfl)
  rw [lg_entry_eq]
  generalize (lg_sl ([.ref Xp]) ++ List.replicate (7 - (lg_sl ([.ref Xp])).length) Slot.unset).toArray = ls at hl ⊢
  have hl : lv_has ls 7 [(0, .ref Xp)] := hl
  have hf112 := hts (.fieldLink RX4 112 "PhaseConverter$Program" "length" "I") (List.mem_of_getElem? (i := 4) rfl)
  have hf31 := hts (.fieldLink RX4 31 "PhaseConverter" "program" "LPhaseConverter$Program;") (List.mem_of_getElem? (i := 3) rfl)
  have hiX3 : ∀ w ∈ u_ws RX3 TX3 2, w ∈ wsX4_play := memIn [197, 198] rfl
  have hiX4 : ∀ w ∈ u_ws RX4 TX4 4, w ∈ wsX4_play := memIn [193, 194, 195, 196] rfl
  refine lv_aload_n hx hb dX4_play_0 rfl (lv_at hl 0 rfl) ?_
  refine va_get (D := E.1) (ci := 4) (v := .ref (Rp 0)) (C := RX4) (T := TX4) (N := 4) hx hb hts hiX4 hown hK hP 0 rfl rfl 3 (by decide) hf31 (fun _ h9 => h9) rfl dX4_play_1 ?_
  refine gvMi (wO Xp Bp Tp Cp Rp ++ (wH E Cp sz nw pf ++ (wP E Bp g z lo up pk ++ (wP E Tp g2 z2 lo2 up2 pk2)))) ([] : va_W) (As := []) (rest := []) ⟨hx, hb, hml, hown, hts⟩ (c_X3_isComplete l E Rp ln cd L hL hL5) (cwV 0 hts gX4_play_X3_isComplete rfl rfl rfl (by decide +kernel) ⟨Nat.le_of_ble_eq_true rfl, Nat.le_of_ble_eq_true rfl⟩) (va_recv hK hP (ci := 3) (q0 := 17) rfl rfl) hP hK hD hN hS hA rfl hl.1 rfl (Nat.le_of_ble_eq_true rfl) dX4_play_4 ⟨Nat.le_refl _, Nat.le_refl _⟩ (fun H locs hP hD hS => ?_)
  have hP : va_P E.1 vwCl (wO Xp Bp Tp Cp Rp ++ (wH E Cp sz nw pf ++ (wP E Bp g z lo up pk ++ (wP E Tp g2 z2 lo2 up2 pk2 ++ (wR E Rp ln cd))))) H := hP
  have hD : va_D _ (wO Xp Bp Tp Cp Rp ++ (wH E Cp sz nw pf ++ (wP E Bp g z lo up pk ++ (wP E Tp g2 z2 lo2 up2 pk2 ++ (wR E Rp ln cd))))) := hD
  refine lv_if_ne (tgt := 20) hx hb dX4_play_7 (by decide) (fun c_7 => ?_) (fun c_7 => absurd c_7 hc)
  refine lv_iconst (v := 0) hx hb dX4_play_20 (by decide) ?_
  refine lv_istore_n (lv' := [(1, .int 0), (0, .ref Xp)]) hx hb dX4_play_21 rfl hl (by decide) rfl (fun ls hl => ?_)
  refine lv_iconst (v := 0) hx hb dX4_play_22 (by decide) ?_
  refine lv_istore_n (lv' := [(2, .int 0), (1, .int 0), (0, .ref Xp)]) hx hb dX4_play_23 rfl hl (by decide) rfl (fun ls hl => ?_)
  refine lv_iconst (v := 0) hx hb dX4_play_24 (by decide) ?_
  refine lv_istore_n (lv' := [(3, .int 0), (2, .int 0), (1, .int 0), (0, .ref Xp)]) hx hb dX4_play_25 rfl hl (by decide) rfl (fun ls hl => ?_)
  refine lv_iconst (v := 1) hx hb dX4_play_26 (by decide) ?_
  refine lv_istore (lv' := [(4, .int 1), (3, .int 0), (2, .int 0), (1, .int 0), (0, .ref Xp)]) hx hb dX4_play_27 hl (by decide) rfl (fun ls hl => ?_)
  refine lv_iconst (v := 0) hx hb dX4_play_29 (by decide) ?_
  refine lv_istore (lv' := [(5, .int 0), (4, .int 1), (3, .int 0), (2, .int 0), (1, .int 0), (0, .ref Xp)]) hx hb dX4_play_30 hl (by decide) rfl (fun ls hl => ?_)
  have L_32 : ∀ (n i : Nat) (g3 : Nat → Int32) (z3 : Nat → Int32) (l3 : Int32) (u3 : Int32) (q3 : Int32) (s3 : Int32) (n3 : Int32) (f3 : Nat → Int32) (c3 : Int32) (a3 : Int32) (b3 : Int32) (p3 : Int32) (H : Heap) (locs : List Loc) (ls : Array Slot), (i + n = L + 1) → (tOK g3 ((z3, l3, u3, q3), (s3, n3, f3))) → (plyL ln cd n i p3 c3 a3 b3 g3 ((z3, l3, u3, q3), (s3, n3, f3)) = plyL ln cd (L + 1) 0 1 0 0 0 g ((z, lo, up, pk), (sz, nw, pf))) → va_P E.1 vwCl (wO Xp Bp Tp Cp Rp ++ (wH E Cp s3 n3 f3 ++ (wP E Bp g3 z3 l3 u3 q3 ++ (wP E Tp g2 z2 lo2 up2 pk2 ++ (wR E Rp ln cd))))) H → va_D (va_A (wO Xp Bp Tp Cp Rp ++ (wH E Cp sz nw pf ++ (wP E Bp g z lo up pk ++ (wP E Tp g2 z2 lo2 up2 pk2 ++ (wR E Rp ln cd))))) s.heap.size) (wO Xp Bp Tp Cp Rp ++ (wH E Cp s3 n3 f3 ++ (wP E Bp g3 z3 l3 u3 q3 ++ (wP E Tp g2 z2 lo2 up2 pk2 ++ (wR E Rp ln cd))))) → va_S (va_A (wO Xp Bp Tp Cp Rp ++ (wH E Cp sz nw pf ++ (wP E Bp g z lo up pk ++ (wP E Tp g2 z2 lo2 up2 pk2 ++ (wR E Rp ln cd))))) s.heap.size) s.heap H locs → lv_has ls 7 [(5, .int (nI i)), (4, .int p3), (3, .int b3), (2, .int a3), (1, .int c3), (0, .ref Xp)] → W p l e (gR wsX4_play 6 137) s m ([.ref Xp] : List Value).toArray below meth c H locs 0 0 (gMQ below E s (wO Xp Bp Tp Cp Rp ++ (wH E Cp sz nw pf ++ (wP E Bp g z lo up pk ++ (wP E Tp g2 z2 lo2 up2 pk2 ++ (wR E Rp ln cd))))) (wO Xp Bp Tp Cp Rp ++ (wH E Cp (((plyL ln cd (L + 1) 0 1 0 0 0 g ((z, lo, up, pk), (sz, nw, pf))).2.2).2.1) (((plyL ln cd (L + 1) 0 1 0 0 0 g ((z, lo, up, pk), (sz, nw, pf))).2.2).2.2.1) (((plyL ln cd (L + 1) 0 1 0 0 0 g ((z, lo, up, pk), (sz, nw, pf))).2.2).2.2.2) ++ (wP E Bp ((plyL ln cd (L + 1) 0 1 0 0 0 g ((z, lo, up, pk), (sz, nw, pf))).2.1) (((plyL ln cd (L + 1) 0 1 0 0 0 g ((z, lo, up, pk), (sz, nw, pf))).2.2).1.1) (((plyL ln cd (L + 1) 0 1 0 0 0 g ((z, lo, up, pk), (sz, nw, pf))).2.2).1.2.1) (((plyL ln cd (L + 1) 0 1 0 0 0 g ((z, lo, up, pk), (sz, nw, pf))).2.2).1.2.2.1) (((plyL ln cd (L + 1) 0 1 0 0 0 g ((z, lo, up, pk), (sz, nw, pf))).2.2).1.2.2.2) ++ (wP E Tp g2 z2 lo2 up2 pk2 ++ (wR E Rp 0 cd))))) (some (.int (plyL ln cd (L + 1) 0 1 0 0 0 g ((z, lo, up, pk), (sz, nw, pf))).1)) [.ref Xp]) (F0 m 32 ls []) := by
    intro n
    induction n with
    | zero =>
      intro i g3 z3 l3 u3 q3 s3 n3 f3 c3 a3 b3 p3 H locs ls hin h3 hfn hP hD hS hl
      refine lv_iload hx hb dX4_play_32 (lv_at hl 0 rfl) ?_
      refine lv_aload_n hx hb dX4_play_34 rfl (lv_at hl 5 rfl) ?_
      refine va_get (D := E.1) (ci := 4) (v := .ref (Rp 0)) (C := RX4) (T := TX4) (N := 4) hx hb hts hiX4 hown hK hP 0 rfl rfl 3 (by decide) hf31 (fun _ h9 => h9) rfl dX4_play_35 ?_
      refine va_get (D := E.1) (ci := 3) (v := .int ln) (C := RX3) (T := TX3) (N := 2) hx hb hts hiX3 hown hK hP 17 rfl rfl 1 (by decide) hf112 (fun _ h9 => h9) rfl dX4_play_38 ?_
      refine lv_icmp_gt (tgt := 142) hx hb dX4_play_41 (by decide) (fun c_41 => ?_) (fun c_41 => absurd (by rw [hL]; exact nI_lt (by omega) (by omega)) c_41)
      have hf : (c3, g3, ((z3, l3, u3, q3), (s3, n3, f3))) = plyL ln cd (L + 1) 0 1 0 0 0 g ((z, lo, up, pk), (sz, nw, pf)) := by first | exact hfn | rw [← hfn, plyL_s, if_pos c_46]
      refine lv_aload_n hx hb dX4_play_142 rfl (lv_at hl 5 rfl) ?_
      refine va_get (D := E.1) (ci := 4) (v := .ref (Rp 0)) (C := RX4) (T := TX4) (N := 4) hx hb hts hiX4 hown hK hP 0 rfl rfl 3 (by decide) hf31 (fun _ h9 => h9) rfl dX4_play_143 ?_
      refine lv_iconst (v := 0) hx hb dX4_play_146 (by decide) ?_
      refine va_put (D := E.1) (ci := 3) (v := .int 0) (ty := .int) (C := RX3) (T := TX3) (N := 2) hx hb hts hiX3 tyX3 tyX3_ok nmX3 hown hK hP hD hS 17 rfl rfl 1 (by decide) hf112 (fun _ h9 => h9) rfl (by decide +kernel) rfl rfl (Nat.le_of_ble_eq_true rfl) dX4_play_147 (fun H locs hP hD hS => ?_)
      have hP : va_P E.1 vwCl (wO Xp Bp Tp Cp Rp ++ (wH E Cp s3 n3 f3 ++ (wP E Bp g3 z3 l3 u3 q3 ++ (wP E Tp g2 z2 lo2 up2 pk2 ++ (wR E Rp 0 cd))))) H := hP
      have hD : va_D _ (wO Xp Bp Tp Cp Rp ++ (wH E Cp s3 n3 f3 ++ (wP E Bp g3 z3 l3 u3 q3 ++ (wP E Tp g2 z2 lo2 up2 pk2 ++ (wR E Rp 0 cd))))) := hD
      refine lv_iload_n hx hb dX4_play_150 rfl (lv_at hl 4 rfl) ?_
      exact greti hx hb hr hlocks hP hD hS (congrArg Prod.fst hf) (by rw [← hf]) dX4_play_151
    | succ n ih =>
      intro i g3 z3 l3 u3 q3 s3 n3 f3 c3 a3 b3 p3 H locs ls hin h3 hfn hP hD hS hl
      refine lv_iload hx hb dX4_play_32 (lv_at hl 0 rfl) ?_
      refine lv_aload_n hx hb dX4_play_34 rfl (lv_at hl 5 rfl) ?_
      refine va_get (D := E.1) (ci := 4) (v := .ref (Rp 0)) (C := RX4) (T := TX4) (N := 4) hx hb hts hiX4 hown hK hP 0 rfl rfl 3 (by decide) hf31 (fun _ h9 => h9) rfl dX4_play_35 ?_
      refine va_get (D := E.1) (ci := 3) (v := .int ln) (C := RX3) (T := TX3) (N := 2) hx hb hts hiX3 hown hK hP 17 rfl rfl 1 (by decide) hf112 (fun _ h9 => h9) rfl dX4_play_38 ?_
      refine lv_icmp_gt (tgt := 142) hx hb dX4_play_41 (by decide) (fun c_41 => absurd c_41 (by rw [hL]; exact nI_nlt (by omega) (by omega))) (fun c_41 => ?_)
      refine lv_iload hx hb dX4_play_44 (lv_at hl 1 rfl) ?_
      refine lv_if_eq (tgt := 142) hx hb dX4_play_46 (by decide) (fun c_46 => ?_) (fun c_46 => ?_)
      · have hf : (c3, g3, ((z3, l3, u3, q3), (s3, n3, f3))) = plyL ln cd (L + 1) 0 1 0 0 0 g ((z, lo, up, pk), (sz, nw, pf)) := by first | exact hfn | rw [← hfn, plyL_s, if_pos c_46]
        refine lv_aload_n hx hb dX4_play_142 rfl (lv_at hl 5 rfl) ?_
        refine va_get (D := E.1) (ci := 4) (v := .ref (Rp 0)) (C := RX4) (T := TX4) (N := 4) hx hb hts hiX4 hown hK hP 0 rfl rfl 3 (by decide) hf31 (fun _ h9 => h9) rfl dX4_play_143 ?_
        refine lv_iconst (v := 0) hx hb dX4_play_146 (by decide) ?_
        refine va_put (D := E.1) (ci := 3) (v := .int 0) (ty := .int) (C := RX3) (T := TX3) (N := 2) hx hb hts hiX3 tyX3 tyX3_ok nmX3 hown hK hP hD hS 17 rfl rfl 1 (by decide) hf112 (fun _ h9 => h9) rfl (by decide +kernel) rfl rfl (Nat.le_of_ble_eq_true rfl) dX4_play_147 (fun H locs hP hD hS => ?_)
        have hP : va_P E.1 vwCl (wO Xp Bp Tp Cp Rp ++ (wH E Cp s3 n3 f3 ++ (wP E Bp g3 z3 l3 u3 q3 ++ (wP E Tp g2 z2 lo2 up2 pk2 ++ (wR E Rp 0 cd))))) H := hP
        have hD : va_D _ (wO Xp Bp Tp Cp Rp ++ (wH E Cp s3 n3 f3 ++ (wP E Bp g3 z3 l3 u3 q3 ++ (wP E Tp g2 z2 lo2 up2 pk2 ++ (wR E Rp 0 cd))))) := hD
        refine lv_iload_n hx hb dX4_play_150 rfl (lv_at hl 4 rfl) ?_
        exact greti hx hb hr hlocks hP hD hS (congrArg Prod.fst hf) (by rw [← hf]) dX4_play_151
      · refine lv_iload hx hb dX4_play_49 (lv_at hl 0 rfl) ?_
        refine lv_aload_n hx hb dX4_play_51 rfl (lv_at hl 5 rfl) ?_
        refine va_get (D := E.1) (ci := 4) (v := .ref (Rp 0)) (C := RX4) (T := TX4) (N := 4) hx hb hts hiX4 hown hK hP 0 rfl rfl 3 (by decide) hf31 (fun _ h9 => h9) rfl dX4_play_52 ?_
        refine va_get (D := E.1) (ci := 3) (v := .int ln) (C := RX3) (T := TX3) (N := 2) hx hb hts hiX3 hown hK hP 17 rfl rfl 1 (by decide) hf112 (fun _ h9 => h9) rfl dX4_play_55 ?_
        obtain ⟨x_1, ex_1⟩ : ∃ y : Int32, y = (if ln ≤ (nI i) then 44 else cd i) := ⟨_, rfl⟩
        have fx : x_1 = plX ln cd i := ex_1
        have J_58 : ∀ (H : Heap) (locs : List Loc) (ls : Array Slot), va_P E.1 vwCl (wO Xp Bp Tp Cp Rp ++ (wH E Cp s3 n3 f3 ++ (wP E Bp g3 z3 l3 u3 q3 ++ (wP E Tp g2 z2 lo2 up2 pk2 ++ (wR E Rp ln cd))))) H → va_D (va_A (wO Xp Bp Tp Cp Rp ++ (wH E Cp sz nw pf ++ (wP E Bp g z lo up pk ++ (wP E Tp g2 z2 lo2 up2 pk2 ++ (wR E Rp ln cd))))) s.heap.size) (wO Xp Bp Tp Cp Rp ++ (wH E Cp s3 n3 f3 ++ (wP E Bp g3 z3 l3 u3 q3 ++ (wP E Tp g2 z2 lo2 up2 pk2 ++ (wR E Rp ln cd))))) → va_S (va_A (wO Xp Bp Tp Cp Rp ++ (wH E Cp sz nw pf ++ (wP E Bp g z lo up pk ++ (wP E Tp g2 z2 lo2 up2 pk2 ++ (wR E Rp ln cd))))) s.heap.size) s.heap H locs → lv_has ls 7 [(5, .int (nI i)), (4, .int p3), (3, .int b3), (2, .int a3), (1, .int c3), (0, .ref Xp)] → W p l e (gR wsX4_play 6 137) s m ([.ref Xp] : List Value).toArray below meth c H locs 0 0 (gMQ below E s (wO Xp Bp Tp Cp Rp ++ (wH E Cp sz nw pf ++ (wP E Bp g z lo up pk ++ (wP E Tp g2 z2 lo2 up2 pk2 ++ (wR E Rp ln cd))))) (wO Xp Bp Tp Cp Rp ++ (wH E Cp (((plyL ln cd (L + 1) 0 1 0 0 0 g ((z, lo, up, pk), (sz, nw, pf))).2.2).2.1) (((plyL ln cd (L + 1) 0 1 0 0 0 g ((z, lo, up, pk), (sz, nw, pf))).2.2).2.2.1) (((plyL ln cd (L + 1) 0 1 0 0 0 g ((z, lo, up, pk), (sz, nw, pf))).2.2).2.2.2) ++ (wP E Bp ((plyL ln cd (L + 1) 0 1 0 0 0 g ((z, lo, up, pk), (sz, nw, pf))).2.1) (((plyL ln cd (L + 1) 0 1 0 0 0 g ((z, lo, up, pk), (sz, nw, pf))).2.2).1.1) (((plyL ln cd (L + 1) 0 1 0 0 0 g ((z, lo, up, pk), (sz, nw, pf))).2.2).1.2.1) (((plyL ln cd (L + 1) 0 1 0 0 0 g ((z, lo, up, pk), (sz, nw, pf))).2.2).1.2.2.1) (((plyL ln cd (L + 1) 0 1 0 0 0 g ((z, lo, up, pk), (sz, nw, pf))).2.2).1.2.2.2) ++ (wP E Tp g2 z2 lo2 up2 pk2 ++ (wR E Rp 0 cd))))) (some (.int (plyL ln cd (L + 1) 0 1 0 0 0 g ((z, lo, up, pk), (sz, nw, pf))).1)) [.ref Xp]) (F0 m 75 ls [.int x_1]) := by
          intro H locs ls hP hD hS hl
          refine lv_istore (lv' := [(6, .int x_1), (5, .int (nI i)), (4, .int p3), (3, .int b3), (2, .int a3), (1, .int c3), (0, .ref Xp)]) hx hb dX4_play_75 hl (by decide) rfl (fun ls hl => ?_)
          refine lv_iload hx hb dX4_play_77 (lv_at hl 0 rfl) ?_
          refine lv_bipush (v := 44) hx hb dX4_play_79 (by decide) ?_
          refine lv_icmp_ne (tgt := 111) hx hb dX4_play_81 (by decide) (fun c_81 => ?_) (fun c_81 => ?_)
          · refine lv_iload hx hb dX4_play_111 (lv_at hl 0 rfl) ?_
            refine gsPi (As := [.int x_1]) (rest := []) ⟨hx, hb, hml, hown, hts⟩ (c_X4_isDigit l E x_1) (va_cwS 1 hts gX4_play_X4_isDigit rfl rfl rfl (by decide +kernel) ⟨Nat.le_of_ble_eq_true rfl, Nat.le_of_ble_eq_true rfl⟩) hP hK hD hN hS hA rfl hl.1 rfl (Nat.le_of_ble_eq_true rfl) dX4_play_113 ⟨Nat.le_refl _, Nat.le_refl _⟩ (fun H locs hP hD hS => ?_)
            refine lv_if_eq (tgt := 133) hx hb dX4_play_116 (by decide) (fun c_116 => ?_) (fun c_116 => ?_)
            · refine lv_iload hx hb dX4_play_133 (lv_at hl 0 rfl) ?_
              refine lv_istore_n (lv' := [(2, .int x_1), (6, .int x_1), (5, .int (nI i)), (4, .int p3), (3, .int b3), (1, .int c3), (0, .ref Xp)]) hx hb dX4_play_135 rfl hl (by decide) rfl (fun ls hl => ?_)
              refine lv_iinc (v := nI (i + 1)) (lv' := [(5, .int (nI (i + 1))), (2, .int x_1), (6, .int x_1), (4, .int p3), (3, .int b3), (1, .int c3), (0, .ref Xp)]) hx hb dX4_play_136 hl (k := 2) rfl (nI_1 _) (by decide) rfl (fun ls hl => ?_)
              refine lv_goto (tgt := 32) hx hb dX4_play_139 (by decide) ?_
              exact ih (i + 1) g3 z3 l3 u3 q3 s3 n3 f3 c3 x_1 b3 p3 H locs ls (by omega) (by first | exact h3 | exact coF_OK c_94 h3) (by rw [← hfn, plyL_s, if_neg c_46, ← fx]; first | rw [if_pos c_81, if_pos c_94] | rw [if_pos c_81, if_neg c_94] | rw [if_neg c_81, if_neg c_116] | rw [if_neg c_81, if_pos c_116]) hP hD hS (lv_sub hl [0, 3, 4, 1, 5, 6] rfl)
            · refine lv_bipush (v := 10) hx hb dX4_play_119 (by decide) ?_
              refine lv_iload_n hx hb dX4_play_121 rfl (lv_at hl 3 rfl) ?_
              refine lv_imul hx hb dX4_play_122 ?_
              refine lv_iload hx hb dX4_play_123 (lv_at hl 0 rfl) ?_
              refine lv_iadd hx hb dX4_play_125 ?_
              refine lv_bipush (v := 48) hx hb dX4_play_126 (by decide) ?_
              refine lv_isub hx hb dX4_play_128 ?_
              refine lv_istore_n (lv' := [(3, .int (((10 * b3) + x_1) - 48)), (6, .int x_1), (5, .int (nI i)), (4, .int p3), (2, .int a3), (1, .int c3), (0, .ref Xp)]) hx hb dX4_play_129 rfl hl (by decide) rfl (fun ls hl => ?_)
              refine lv_goto (tgt := 136) hx hb dX4_play_130 (by decide) ?_
              refine lv_iinc (v := nI (i + 1)) (lv' := [(5, .int (nI (i + 1))), (3, .int (((10 * b3) + x_1) - 48)), (6, .int x_1), (4, .int p3), (2, .int a3), (1, .int c3), (0, .ref Xp)]) hx hb dX4_play_136 hl (k := 2) rfl (nI_1 _) (by decide) rfl (fun ls hl => ?_)
              refine lv_goto (tgt := 32) hx hb dX4_play_139 (by decide) ?_
              exact ih (i + 1) g3 z3 l3 u3 q3 s3 n3 f3 c3 a3 (((10 * b3) + x_1) - 48) p3 H locs ls (by omega) (by first | exact h3 | exact coF_OK c_94 h3) (by rw [← hfn, plyL_s, if_neg c_46, ← fx]; first | rw [if_pos c_81, if_pos c_94] | rw [if_pos c_81, if_neg c_94] | rw [if_neg c_81, if_neg c_116] | rw [if_neg c_81, if_pos c_116]) hP hD hS (lv_sub hl [0, 3, 1, 4, 5, 6] rfl)
          · refine lv_aload_n hx hb dX4_play_84 rfl (lv_at hl 6 rfl) ?_
            refine lv_iload_n hx hb dX4_play_85 rfl (lv_at hl 4 rfl) ?_
            refine lv_iload_n hx hb dX4_play_86 rfl (lv_at hl 3 rfl) ?_
            refine xv0i (As := [.int a3, .int b3]) (rest := []) ⟨hx, hb, hml, hown, hts⟩ (c_X4_isPossible l E Sp Xp Cp s3 n3 f3 Bp g3 z3 l3 u3 q3 Tp g2 z2 lo2 up2 pk2 Rp ln cd a3 b3) (cwV 2 hts gX4_play_X4_isPossible rfl rfl rfl (by decide +kernel) ⟨Nat.le_of_ble_eq_true rfl, Nat.le_of_ble_eq_true rfl⟩) (va_recv hK hP (ci := 4) (q0 := 0) rfl rfl) hP hK hD hN hX hS hA rfl hl.1 rfl (Nat.le_of_ble_eq_true rfl) dX4_play_87 ⟨Nat.le_refl _, Nat.le_refl _⟩ (fun H locs hP hD hS => ?_)
            have hP : va_P E.1 vwCl (wO Xp Bp Tp Cp Rp ++ (wH E Cp s3 n3 f3 ++ (wP E Bp g3 z3 l3 u3 q3 ++ (wP E Tp g2 z2 lo2 up2 pk2 ++ (wR E Rp ln cd))))) H := hP
            have hD : va_D _ (wO Xp Bp Tp Cp Rp ++ (wH E Cp s3 n3 f3 ++ (wP E Bp g3 z3 l3 u3 q3 ++ (wP E Tp g2 z2 lo2 up2 pk2 ++ (wR E Rp ln cd))))) := hD
            refine lv_istore (lv' := [(4, .int (posI a3 b3 z3)), (6, .int x_1), (5, .int (nI i)), (3, .int b3), (2, .int a3), (1, .int c3), (0, .ref Xp)]) hx hb dX4_play_90 hl (by decide) rfl (fun ls hl => ?_)
            refine lv_iload hx hb dX4_play_92 (lv_at hl 0 rfl) ?_
            refine lv_if_eq (tgt := 106) hx hb dX4_play_94 (by decide) (fun c_94 => ?_) (fun c_94 => ?_)
            · refine lv_iconst (v := 0) hx hb dX4_play_106 (by decide) ?_
              refine lv_istore_n (lv' := [(3, .int 0), (4, .int (posI a3 b3 z3)), (6, .int x_1), (5, .int (nI i)), (2, .int a3), (1, .int c3), (0, .ref Xp)]) hx hb dX4_play_107 rfl hl (by decide) rfl (fun ls hl => ?_)
              refine lv_goto (tgt := 136) hx hb dX4_play_108 (by decide) ?_
              refine lv_iinc (v := nI (i + 1)) (lv' := [(5, .int (nI (i + 1))), (3, .int 0), (4, .int (posI a3 b3 z3)), (6, .int x_1), (2, .int a3), (1, .int c3), (0, .ref Xp)]) hx hb dX4_play_136 hl (k := 3) rfl (nI_1 _) (by decide) rfl (fun ls hl => ?_)
              refine lv_goto (tgt := 32) hx hb dX4_play_139 (by decide) ?_
              exact ih (i + 1) g3 z3 l3 u3 q3 s3 n3 f3 c3 a3 0 (posI a3 b3 z3) H locs ls (by omega) (by first | exact h3 | exact coF_OK c_94 h3) (by rw [← hfn, plyL_s, if_neg c_46, ← fx]; first | rw [if_pos c_81, if_pos c_94] | rw [if_pos c_81, if_neg c_94] | rw [if_neg c_81, if_neg c_116] | rw [if_neg c_81, if_pos c_116]) hP hD hS (lv_sub hl [0, 2, 1, 4, 5, 6] rfl)
            · refine lv_aload_n hx hb dX4_play_97 rfl (lv_at hl 6 rfl) ?_
              refine lv_iload_n hx hb dX4_play_98 rfl (lv_at hl 4 rfl) ?_
              refine lv_iload_n hx hb dX4_play_99 rfl (lv_at hl 3 rfl) ?_
              refine gv0v (As := [.int a3, .int b3]) (rest := []) ⟨hx, hb, hml, hown, hts⟩ (c_X4_carryOut l E Xp Cp s3 n3 f3 Bp g3 z3 l3 u3 q3 Tp g2 z2 lo2 up2 pk2 Rp ln cd a3 b3 c_94 h3.2.2.1 h3.1 h3.2.1 h3.2.2.2) (cwV 2 hts gX4_play_X4_carryOut rfl rfl rfl (by decide +kernel) ⟨Nat.le_of_ble_eq_true rfl, Nat.le_of_ble_eq_true rfl⟩) (va_recv hK hP (ci := 4) (q0 := 0) rfl rfl) hP hK hD hN hS hA rfl hl.1 rfl (Nat.le_of_ble_eq_true rfl) dX4_play_100 ⟨Nat.le_refl _, Nat.le_refl _⟩ (fun H locs hP hD hS => ?_)
              have hP : va_P E.1 vwCl (wO Xp Bp Tp Cp Rp ++ (wH E Cp ((coF a3 b3 ((z3, l3, u3, q3), (s3, n3, f3))).2.1) ((coF a3 b3 ((z3, l3, u3, q3), (s3, n3, f3))).2.2.1) ((coF a3 b3 ((z3, l3, u3, q3), (s3, n3, f3))).2.2.2) ++ (wP E Bp (coG a3 b3 g3) ((coF a3 b3 ((z3, l3, u3, q3), (s3, n3, f3))).1.1) ((coF a3 b3 ((z3, l3, u3, q3), (s3, n3, f3))).1.2.1) ((coF a3 b3 ((z3, l3, u3, q3), (s3, n3, f3))).1.2.2.1) ((coF a3 b3 ((z3, l3, u3, q3), (s3, n3, f3))).1.2.2.2) ++ (wP E Tp g2 z2 lo2 up2 pk2 ++ (wR E Rp ln cd))))) H := hP
              have hD : va_D _ (wO Xp Bp Tp Cp Rp ++ (wH E Cp ((coF a3 b3 ((z3, l3, u3, q3), (s3, n3, f3))).2.1) ((coF a3 b3 ((z3, l3, u3, q3), (s3, n3, f3))).2.2.1) ((coF a3 b3 ((z3, l3, u3, q3), (s3, n3, f3))).2.2.2) ++ (wP E Bp (coG a3 b3 g3) ((coF a3 b3 ((z3, l3, u3, q3), (s3, n3, f3))).1.1) ((coF a3 b3 ((z3, l3, u3, q3), (s3, n3, f3))).1.2.1) ((coF a3 b3 ((z3, l3, u3, q3), (s3, n3, f3))).1.2.2.1) ((coF a3 b3 ((z3, l3, u3, q3), (s3, n3, f3))).1.2.2.2) ++ (wP E Tp g2 z2 lo2 up2 pk2 ++ (wR E Rp ln cd))))) := hD
              refine lv_iinc (v := c3 + 1) (lv' := [(1, .int (c3 + 1)), (4, .int (posI a3 b3 z3)), (6, .int x_1), (5, .int (nI i)), (3, .int b3), (2, .int a3), (0, .ref Xp)]) hx hb dX4_play_103 hl (k := 5) rfl rfl (by decide) rfl (fun ls hl => ?_)
              refine lv_iconst (v := 0) hx hb dX4_play_106 (by decide) ?_
              refine lv_istore_n (lv' := [(3, .int 0), (1, .int (c3 + 1)), (4, .int (posI a3 b3 z3)), (6, .int x_1), (5, .int (nI i)), (2, .int a3), (0, .ref Xp)]) hx hb dX4_play_107 rfl hl (by decide) rfl (fun ls hl => ?_)
              refine lv_goto (tgt := 136) hx hb dX4_play_108 (by decide) ?_
              refine lv_iinc (v := nI (i + 1)) (lv' := [(5, .int (nI (i + 1))), (3, .int 0), (1, .int (c3 + 1)), (4, .int (posI a3 b3 z3)), (6, .int x_1), (2, .int a3), (0, .ref Xp)]) hx hb dX4_play_136 hl (k := 4) rfl (nI_1 _) (by decide) rfl (fun ls hl => ?_)
              refine lv_goto (tgt := 32) hx hb dX4_play_139 (by decide) ?_
              exact ih (i + 1) (coG a3 b3 g3) ((coF a3 b3 ((z3, l3, u3, q3), (s3, n3, f3))).1.1) ((coF a3 b3 ((z3, l3, u3, q3), (s3, n3, f3))).1.2.1) ((coF a3 b3 ((z3, l3, u3, q3), (s3, n3, f3))).1.2.2.1) ((coF a3 b3 ((z3, l3, u3, q3), (s3, n3, f3))).1.2.2.2) ((coF a3 b3 ((z3, l3, u3, q3), (s3, n3, f3))).2.1) ((coF a3 b3 ((z3, l3, u3, q3), (s3, n3, f3))).2.2.1) ((coF a3 b3 ((z3, l3, u3, q3), (s3, n3, f3))).2.2.2) (c3 + 1) a3 0 (posI a3 b3 z3) H locs ls (by omega) (by first | exact h3 | exact coF_OK c_94 h3) (by rw [← hfn, plyL_s, if_neg c_46, ← fx]; first | rw [if_pos c_81, if_pos c_94] | rw [if_pos c_81, if_neg c_94] | rw [if_neg c_81, if_neg c_116] | rw [if_neg c_81, if_pos c_116]) hP hD hS (lv_sub hl [0, 3, 1, 5, 2, 6] rfl)
        refine lv_icmp_ge (tgt := 73) hx hb dX4_play_58 (by decide) (fun c_58 => ?_) (fun c_58 => ?_)
        · refine lv_bipush (v := 44) hx hb dX4_play_73 (by decide) ?_
          refine W.eq (g2 := F0 m 75 ls [.int x_1]) (by rw [ex_1]; simp only [if_pos c_58]) ?_
          exact J_58 H locs ls (hP) (hD) hS (lv_sub hl [0, 1, 2, 3, 4, 5] rfl)
        · have hiL : i < L := by rcases Nat.lt_or_ge i L with q9 | q9; exact q9; exact absurd (by rw [hL]; exact nI_le q9 (by omega)) c_58
          refine lv_aload_n hx hb dX4_play_61 rfl (lv_at hl 5 rfl) ?_
          refine va_get (D := E.1) (ci := 4) (v := .ref (Rp 0)) (C := RX4) (T := TX4) (N := 4) hx hb hts hiX4 hown hK hP 0 rfl rfl 3 (by decide) hf31 (fun _ h9 => h9) rfl dX4_play_62 ?_
          refine lv_iload hx hb dX4_play_65 (lv_at hl 0 rfl) ?_
          refine gvMi (wO Xp Bp Tp Cp Rp ++ (wH E Cp s3 n3 f3 ++ (wP E Bp g3 z3 l3 u3 q3 ++ (wP E Tp g2 z2 lo2 up2 pk2)))) ([] : va_W) (As := [.int (nI i)]) (rest := []) ⟨hx, hb, hml, hown, hts⟩ (c_X3_codeAt l E Rp ln cd i (by omega)) (cwV 1 hts gX4_play_X3_codeAt rfl rfl rfl (by decide +kernel) ⟨Nat.le_of_ble_eq_true rfl, Nat.le_of_ble_eq_true rfl⟩) (va_recv hK hP (ci := 3) (q0 := 17) rfl rfl) hP hK hD hN hS hA rfl hl.1 rfl (Nat.le_of_ble_eq_true rfl) dX4_play_67 ⟨Nat.le_refl _, Nat.le_refl _⟩ (fun H locs hP hD hS => ?_)
          have hP : va_P E.1 vwCl (wO Xp Bp Tp Cp Rp ++ (wH E Cp s3 n3 f3 ++ (wP E Bp g3 z3 l3 u3 q3 ++ (wP E Tp g2 z2 lo2 up2 pk2 ++ (wR E Rp ln cd))))) H := hP
          have hD : va_D _ (wO Xp Bp Tp Cp Rp ++ (wH E Cp s3 n3 f3 ++ (wP E Bp g3 z3 l3 u3 q3 ++ (wP E Tp g2 z2 lo2 up2 pk2 ++ (wR E Rp ln cd))))) := hD
          refine lv_goto (tgt := 75) hx hb dX4_play_70 (by decide) ?_
          refine W.eq (g2 := F0 m 75 ls [.int x_1]) (by rw [ex_1]; simp only [if_neg c_58]) ?_
          exact J_58 H locs ls (hP) (hD) hS (lv_sub hl [0, 1, 2, 3, 4, 5] rfl)
  exact L_32 (L + 1) (0) g z lo up pk sz nw pf 0 0 0 1 H locs ls (by omega) (⟨hz, hZ, hg, hrk⟩) rfl hP hD hS (lv_sub hl [0, 1, 2, 3, 4, 5] rfl)

set_option maxHeartbeats 4000000 in
set_option maxRecDepth 100000 in
theorem c_X4_digest (l : Launch) (E : EE) (Xp : Nat) (Cp : Nat → Nat) (sz nw : Int32) (pf : Nat → Int32) (Bp : Nat → Nat) (g z : Nat → Int32) (lo up pk : Int32) (Tp : Nat → Nat) (g2 z2 : Nat → Int32) (lo2 up2 pk2 : Int32) (Rp : Nat → Nat) (ln : Int32) (cd : Nat → Int32) (L : Nat) (hL : ln = nI L) (hL5 : L ≤ 50) (hg : ∀ k, k < 15 → g k = z k) (hz : zOK z) (hZ : zZ z) (hrk : rOK sz nw) : GM l yX4_digest wsX4_digest 5 115 E (wO Xp Bp Tp Cp Rp ++ (wH E Cp sz nw pf ++ (wP E Bp g z lo up pk ++ (wP E Tp g2 z2 lo2 up2 pk2 ++ (wR E Rp ln cd))))) [.ref Xp] (wO Xp Bp Tp Cp Rp ++ (wH E Cp sz nw pf ++ (wP E Bp g z lo up pk ++ (wP E Tp (va_cpy g g2 0 0 15) (((stC 50 (z 1) 202 1 0 (z, lo, up, pk)).2).1) (((stC 50 (z 1) 202 1 0 (z, lo, up, pk)).2).2.1) (((stC 50 (z 1) 202 1 0 (z, lo, up, pk)).2).2.2.1) (((stC 50 (z 1) 202 1 0 (z, lo, up, pk)).2).2.2.2) ++ (wR E Rp ln cd))))) (some (.long (dgX sz nw pf z lo up pk ln cd L (stC 50 (z 1) 202 1 0 (z, lo, up, pk)).1))) := by
  intro sz
  refine Met.ofW (cc := cX4_digest) (maxL := 5) (ret := (some .long)) (by decide) rfl ?_
  intro p e s m args below meth c s₁ B hml hv
  obtain ⟨rfl, rfl, hP, hK, hD0, hN⟩ := hv
  have hx := B.exec
  have hb := B.bytes
  have hr := B.returns
  have hts := atoms_spec (ws := wsX4_digest) B.pre
  have hown : s.vm.findClass RX4 = some m.cls := findClass_of_methodNamed B.named
  have hlocks := B.notSynchronized
  have hD := hD0.self (sz := s.heap.size)
  have hA : ∀ q : Nat, s.heap.size ≤ q → va_A (wO Xp Bp Tp Cp Rp ++ (wH E Cp sz nw pf ++ (wP E Bp g z lo up pk ++ (wP E Tp g2 z2 lo2 up2 pk2 ++ (wR E Rp ln cd))))) s.heap.size q := fun q h => Or.inr h
  have hS : va_S (va_A (wO Xp Bp Tp Cp Rp ++ (wH E Cp sz nw pf ++ (wP E Bp g z lo up pk ++ (wP E Tp g2 z2 lo2 up2 pk2 ++ (wR E Rp ln cd))))) s.heap.size) s.heap s.heap [] := va_S.rf
  have hl := lv_entry ([.ref Xp]) (n := 5) (Nat.le_of_ble_eq_true rfl)
  rw [lg_entry_eq]
  generalize (lg_sl ([.ref Xp]) ++ List.replicate (5 - (lg_sl ([.ref Xp])).length) Slot.unset).toArray = ls at hl ⊢
  have hl : lv_has ls 5 [(0, .ref Xp)] := hl
  have hf112 := hts (.fieldLink RX4 112 "PhaseConverter$Program" "length" "I") (List.mem_of_getElem? (i := 10) rfl)
  have hf14 := hts (.fieldLink RX4 14 "PhaseConverter" "plant" "LPhaseConverter$Plant;") (List.mem_of_getElem? (i := 3) rfl)
  have hf143 := hts (.fieldLink RX4 143 "PhaseConverter$Plant" "phases" "[LPhaseConverter$Phase;") (List.mem_of_getElem? (i := 6) rfl)
  have hf156 := hts (.fieldLink RX4 156 "PhaseConverter$History" "size" "I") (List.mem_of_getElem? (i := 8) rfl)
  have hf24 := hts (.fieldLink RX4 24 "PhaseConverter" "history" "LPhaseConverter$History;") (List.mem_of_getElem? (i := 7) rfl)
  have hf31 := hts (.fieldLink RX4 31 "PhaseConverter" "program" "LPhaseConverter$Program;") (List.mem_of_getElem? (i := 9) rfl)
  have hf42 := hts (.fieldLink RX4 42 "PhaseConverter$Plant" "phaseCount" "I") (List.mem_of_getElem? (i := 5) rfl)
  have hf67 := hts (.fieldLink RX4 67 "PhaseConverter$Plant" "settings" "[I") (List.mem_of_getElem? (i := 4) rfl)
  have hiX0 : ∀ w ∈ u_ws RX0 TX0 3, w ∈ wsX4_digest := memIn [205, 206, 207] rfl
  have hiX2 : ∀ w ∈ u_ws RX2 TX2 17, w ∈ wsX4_digest := memIn [188, 189, 190, 191, 192, 193, 194, 195, 196, 197, 198, 199, 200, 201, 202, 203, 204] rfl
  have hiX3 : ∀ w ∈ u_ws RX3 TX3 2, w ∈ wsX4_digest := memIn [208, 209] rfl
  have hiX4 : ∀ w ∈ u_ws RX4 TX4 4, w ∈ wsX4_digest := memIn [184, 185, 186, 187] rfl
  have hn4 := hz.2.2.1
  have hs6 := hrk.2.2.2
  refine lv_ldc2 (own := RX4) (v := 2017) hx hb hown (hts (.constantLong RX4 209 (2017)) (List.mem_of_getElem? (i := 1) rfl)) dX4_digest_0 ?_
  refine lv_lstore_n (lv' := [(1, .long 2017), (0, .ref Xp)]) hx hb dX4_digest_3 rfl hl (by decide) rfl (fun ls hl => ?_)
  refine lv_iconst (v := 0) hx hb dX4_digest_4 (by decide) ?_
  refine lv_istore_n (lv' := [(3, .int 0), (1, .long 2017), (0, .ref Xp)]) hx hb dX4_digest_5 rfl hl (by decide) rfl (fun ls hl => ?_)
  have L_6 : ∀ (n1 i1 : Nat) (xa : Int64) (H : Heap) (locs : List Loc) (ls : Array Slot), (i1 + n1 = 15) → (dgL (fun i => (nuX i sz z lo up pk).toInt64) n1 i1 xa = dgL (fun i => (nuX i sz z lo up pk).toInt64) 15 0 2017) → va_P E.1 vwCl (wO Xp Bp Tp Cp Rp ++ (wH E Cp sz nw pf ++ (wP E Bp g z lo up pk ++ (wP E Tp g2 z2 lo2 up2 pk2 ++ (wR E Rp ln cd))))) H → va_D (va_A (wO Xp Bp Tp Cp Rp ++ (wH E Cp sz nw pf ++ (wP E Bp g z lo up pk ++ (wP E Tp g2 z2 lo2 up2 pk2 ++ (wR E Rp ln cd))))) s.heap.size) (wO Xp Bp Tp Cp Rp ++ (wH E Cp sz nw pf ++ (wP E Bp g z lo up pk ++ (wP E Tp g2 z2 lo2 up2 pk2 ++ (wR E Rp ln cd))))) → va_S (va_A (wO Xp Bp Tp Cp Rp ++ (wH E Cp sz nw pf ++ (wP E Bp g z lo up pk ++ (wP E Tp g2 z2 lo2 up2 pk2 ++ (wR E Rp ln cd))))) s.heap.size) s.heap H locs → lv_has ls 5 [(3, .int (nI i1)), (1, .long xa), (0, .ref Xp)] → W p l e (gR wsX4_digest 5 115) s m ([.ref Xp] : List Value).toArray below meth c H locs 0 0 (gMQ below E s (wO Xp Bp Tp Cp Rp ++ (wH E Cp sz nw pf ++ (wP E Bp g z lo up pk ++ (wP E Tp g2 z2 lo2 up2 pk2 ++ (wR E Rp ln cd))))) (wO Xp Bp Tp Cp Rp ++ (wH E Cp sz nw pf ++ (wP E Bp g z lo up pk ++ (wP E Tp (va_cpy g g2 0 0 15) (((stC 50 (z 1) 202 1 0 (z, lo, up, pk)).2).1) (((stC 50 (z 1) 202 1 0 (z, lo, up, pk)).2).2.1) (((stC 50 (z 1) 202 1 0 (z, lo, up, pk)).2).2.2.1) (((stC 50 (z 1) 202 1 0 (z, lo, up, pk)).2).2.2.2) ++ (wR E Rp ln cd))))) (some (.long (dgX sz nw pf z lo up pk ln cd L (stC 50 (z 1) 202 1 0 (z, lo, up, pk)).1))) [.ref Xp]) (F0 m 6 ls []) := by
    intro n1
    induction n1 with
    | zero =>
      intro i1 xa H locs ls hin1  hfn1 hP hD hS hl
      refine lv_iload_n hx hb dX4_digest_6 rfl (lv_at hl 0 rfl) ?_
      refine lv_bipush (v := 15) hx hb dX4_digest_7 (by decide) ?_
      refine lv_icmp_ge (tgt := 31) hx hb dX4_digest_9 (by decide) (fun c_9 => ?_) (fun c_9 => absurd (nI_le (a := 15) (by omega) (by omega)) c_9)
      refine lv_iconst (v := 0) hx hb dX4_digest_31 (by decide) ?_
      refine lv_istore_n (lv' := [(3, .int 0), (1, .long xa), (0, .ref Xp)]) hx hb dX4_digest_32 rfl hl (by decide) rfl (fun ls hl => ?_)
      have L_33 : ∀ (n2 i2 : Nat) (xb : Int64) (H : Heap) (locs : List Loc) (ls : Array Slot), (i2 + n2 = 15) → (dgL (fun i => (z i).toInt64) n2 i2 xb = dgL (fun i => (z i).toInt64) 15 0 xa) → va_P E.1 vwCl (wO Xp Bp Tp Cp Rp ++ (wH E Cp sz nw pf ++ (wP E Bp g z lo up pk ++ (wP E Tp g2 z2 lo2 up2 pk2 ++ (wR E Rp ln cd))))) H → va_D (va_A (wO Xp Bp Tp Cp Rp ++ (wH E Cp sz nw pf ++ (wP E Bp g z lo up pk ++ (wP E Tp g2 z2 lo2 up2 pk2 ++ (wR E Rp ln cd))))) s.heap.size) (wO Xp Bp Tp Cp Rp ++ (wH E Cp sz nw pf ++ (wP E Bp g z lo up pk ++ (wP E Tp g2 z2 lo2 up2 pk2 ++ (wR E Rp ln cd))))) → va_S (va_A (wO Xp Bp Tp Cp Rp ++ (wH E Cp sz nw pf ++ (wP E Bp g z lo up pk ++ (wP E Tp g2 z2 lo2 up2 pk2 ++ (wR E Rp ln cd))))) s.heap.size) s.heap H locs → lv_has ls 5 [(3, .int (nI i2)), (1, .long xb), (0, .ref Xp)] → W p l e (gR wsX4_digest 5 115) s m ([.ref Xp] : List Value).toArray below meth c H locs 0 0 (gMQ below E s (wO Xp Bp Tp Cp Rp ++ (wH E Cp sz nw pf ++ (wP E Bp g z lo up pk ++ (wP E Tp g2 z2 lo2 up2 pk2 ++ (wR E Rp ln cd))))) (wO Xp Bp Tp Cp Rp ++ (wH E Cp sz nw pf ++ (wP E Bp g z lo up pk ++ (wP E Tp (va_cpy g g2 0 0 15) (((stC 50 (z 1) 202 1 0 (z, lo, up, pk)).2).1) (((stC 50 (z 1) 202 1 0 (z, lo, up, pk)).2).2.1) (((stC 50 (z 1) 202 1 0 (z, lo, up, pk)).2).2.2.1) (((stC 50 (z 1) 202 1 0 (z, lo, up, pk)).2).2.2.2) ++ (wR E Rp ln cd))))) (some (.long (dgX sz nw pf z lo up pk ln cd L (stC 50 (z 1) 202 1 0 (z, lo, up, pk)).1))) [.ref Xp]) (F0 m 33 ls []) := by
        intro n2
        induction n2 with
        | zero =>
          intro i2 xb H locs ls hin2  hfn2 hP hD hS hl
          refine lv_iload_n hx hb dX4_digest_33 rfl (lv_at hl 0 rfl) ?_
          refine lv_bipush (v := 15) hx hb dX4_digest_34 (by decide) ?_
          refine lv_icmp_ge (tgt := 74) hx hb dX4_digest_36 (by decide) (fun c_36 => ?_) (fun c_36 => absurd (nI_le (a := 15) (by omega) (by omega)) c_36)
          refine lv_iconst (v := 0) hx hb dX4_digest_74 (by decide) ?_
          refine lv_istore_n (lv' := [(3, .int 0), (1, .long xb), (0, .ref Xp)]) hx hb dX4_digest_75 rfl hl (by decide) rfl (fun ls hl => ?_)
          have L_76 : ∀ (n3 i3 : Nat) (xc : Int64) (H : Heap) (locs : List Loc) (ls : Array Slot), (i3 + n3 = nOf z) → (dgN (fun i j => (z (35 + 7 * i + j)).toInt64) 7 n3 i3 xc = dgN (fun i j => (z (35 + 7 * i + j)).toInt64) 7 (nOf z) 0 xb) → va_P E.1 vwCl (wO Xp Bp Tp Cp Rp ++ (wH E Cp sz nw pf ++ (wP E Bp g z lo up pk ++ (wP E Tp g2 z2 lo2 up2 pk2 ++ (wR E Rp ln cd))))) H → va_D (va_A (wO Xp Bp Tp Cp Rp ++ (wH E Cp sz nw pf ++ (wP E Bp g z lo up pk ++ (wP E Tp g2 z2 lo2 up2 pk2 ++ (wR E Rp ln cd))))) s.heap.size) (wO Xp Bp Tp Cp Rp ++ (wH E Cp sz nw pf ++ (wP E Bp g z lo up pk ++ (wP E Tp g2 z2 lo2 up2 pk2 ++ (wR E Rp ln cd))))) → va_S (va_A (wO Xp Bp Tp Cp Rp ++ (wH E Cp sz nw pf ++ (wP E Bp g z lo up pk ++ (wP E Tp g2 z2 lo2 up2 pk2 ++ (wR E Rp ln cd))))) s.heap.size) s.heap H locs → lv_has ls 5 [(3, .int (nI i3)), (1, .long xc), (0, .ref Xp)] → W p l e (gR wsX4_digest 5 115) s m ([.ref Xp] : List Value).toArray below meth c H locs 0 0 (gMQ below E s (wO Xp Bp Tp Cp Rp ++ (wH E Cp sz nw pf ++ (wP E Bp g z lo up pk ++ (wP E Tp g2 z2 lo2 up2 pk2 ++ (wR E Rp ln cd))))) (wO Xp Bp Tp Cp Rp ++ (wH E Cp sz nw pf ++ (wP E Bp g z lo up pk ++ (wP E Tp (va_cpy g g2 0 0 15) (((stC 50 (z 1) 202 1 0 (z, lo, up, pk)).2).1) (((stC 50 (z 1) 202 1 0 (z, lo, up, pk)).2).2.1) (((stC 50 (z 1) 202 1 0 (z, lo, up, pk)).2).2.2.1) (((stC 50 (z 1) 202 1 0 (z, lo, up, pk)).2).2.2.2) ++ (wR E Rp ln cd))))) (some (.long (dgX sz nw pf z lo up pk ln cd L (stC 50 (z 1) 202 1 0 (z, lo, up, pk)).1))) [.ref Xp]) (F0 m 76 ls []) := by
            intro n3
            induction n3 with
            | zero =>
              intro i3 xc H locs ls hin3  hfn3 hP hD hS hl
              refine lv_iload_n hx hb dX4_digest_76 rfl (lv_at hl 0 rfl) ?_
              refine lv_aload_n hx hb dX4_digest_77 rfl (lv_at hl 2 rfl) ?_
              refine va_get (D := E.1) (ci := 4) (v := .ref (Bp 0)) (C := RX4) (T := TX4) (N := 4) hx hb hts hiX4 hown hK hP 0 rfl rfl 0 (by decide) hf14 (fun _ h9 => h9) rfl dX4_digest_78 ?_
              refine va_get (D := E.1) (ci := 2) (v := .int (z 15)) (C := RX2) (T := TX2) (N := 17) hx hb hts hiX2 hown hK hP 3 rfl rfl 2 (by decide) hf42 (fun _ h9 => h9) rfl dX4_digest_81 ?_
              refine lv_icmp_ge (tgt := 143) hx hb dX4_digest_84 (by decide) (fun c_84 => ?_) (fun c_84 => absurd (by rw [hz.1]; exact nI_le (by omega) (by omega)) c_84)
              refine lv_iconst (v := 0) hx hb dX4_digest_143 (by decide) ?_
              refine lv_istore_n (lv' := [(3, .int 0), (1, .long xc), (0, .ref Xp)]) hx hb dX4_digest_144 rfl hl (by decide) rfl (fun ls hl => ?_)
              have L_145 : ∀ (n5 i5 : Nat) (xe : Int64) (H : Heap) (locs : List Loc) (ls : Array Slot), (i5 + n5 = sz.toNatClampNeg) → (dgN (fun i j => (pf ((nw.toNatClampNeg + 16 - i) % 16 * 6 + j)).toInt64) 6 n5 i5 xe = dgN (fun i j => (pf ((nw.toNatClampNeg + 16 - i) % 16 * 6 + j)).toInt64) 6 sz.toNatClampNeg 0 xc) → va_P E.1 vwCl (wO Xp Bp Tp Cp Rp ++ (wH E Cp sz nw pf ++ (wP E Bp g z lo up pk ++ (wP E Tp g2 z2 lo2 up2 pk2 ++ (wR E Rp ln cd))))) H → va_D (va_A (wO Xp Bp Tp Cp Rp ++ (wH E Cp sz nw pf ++ (wP E Bp g z lo up pk ++ (wP E Tp g2 z2 lo2 up2 pk2 ++ (wR E Rp ln cd))))) s.heap.size) (wO Xp Bp Tp Cp Rp ++ (wH E Cp sz nw pf ++ (wP E Bp g z lo up pk ++ (wP E Tp g2 z2 lo2 up2 pk2 ++ (wR E Rp ln cd))))) → va_S (va_A (wO Xp Bp Tp Cp Rp ++ (wH E Cp sz nw pf ++ (wP E Bp g z lo up pk ++ (wP E Tp g2 z2 lo2 up2 pk2 ++ (wR E Rp ln cd))))) s.heap.size) s.heap H locs → lv_has ls 5 [(3, .int (nI i5)), (1, .long xe), (0, .ref Xp)] → W p l e (gR wsX4_digest 5 115) s m ([.ref Xp] : List Value).toArray below meth c H locs 0 0 (gMQ below E s (wO Xp Bp Tp Cp Rp ++ (wH E Cp sz nw pf ++ (wP E Bp g z lo up pk ++ (wP E Tp g2 z2 lo2 up2 pk2 ++ (wR E Rp ln cd))))) (wO Xp Bp Tp Cp Rp ++ (wH E Cp sz nw pf ++ (wP E Bp g z lo up pk ++ (wP E Tp (va_cpy g g2 0 0 15) (((stC 50 (z 1) 202 1 0 (z, lo, up, pk)).2).1) (((stC 50 (z 1) 202 1 0 (z, lo, up, pk)).2).2.1) (((stC 50 (z 1) 202 1 0 (z, lo, up, pk)).2).2.2.1) (((stC 50 (z 1) 202 1 0 (z, lo, up, pk)).2).2.2.2) ++ (wR E Rp ln cd))))) (some (.long (dgX sz nw pf z lo up pk ln cd L (stC 50 (z 1) 202 1 0 (z, lo, up, pk)).1))) [.ref Xp]) (F0 m 145 ls []) := by
                intro n5
                induction n5 with
                | zero =>
                  intro i5 xe H locs ls hin5  hfn5 hP hD hS hl
                  refine lv_iload_n hx hb dX4_digest_145 rfl (lv_at hl 0 rfl) ?_
                  refine lv_aload_n hx hb dX4_digest_146 rfl (lv_at hl 2 rfl) ?_
                  refine va_get (D := E.1) (ci := 4) (v := .ref (Cp 0)) (C := RX4) (T := TX4) (N := 4) hx hb hts hiX4 hown hK hP 0 rfl rfl 2 (by decide) hf24 (fun _ h9 => h9) rfl dX4_digest_147 ?_
                  refine va_get (D := E.1) (ci := 0) (v := .int sz) (C := RX0) (T := TX0) (N := 3) hx hb hts hiX0 hown hK hP 1 rfl rfl 1 (by decide) hf156 (fun _ h9 => h9) rfl dX4_digest_150 ?_
                  refine lv_icmp_ge (tgt := 196) hx hb dX4_digest_153 (by decide) (fun c_153 => ?_) (fun c_153 => absurd (by rw [hrk.2.2.1]; exact nI_le (by omega) (by omega)) c_153)
                  refine lv_ldc2 (own := RX4) (v := 31) hx hb hown (hts (.constantLong RX4 211 (31)) (List.mem_of_getElem? (i := 2) rfl)) dX4_digest_196 ?_
                  refine lv_lload_n hx hb dX4_digest_199 rfl (lv_at hl 1 rfl) ?_
                  refine lv_lmul hx hb dX4_digest_200 ?_
                  refine lv_aload_n hx hb dX4_digest_201 rfl (lv_at hl 2 rfl) ?_
                  refine lv_bipush (v := 50) hx hb dX4_digest_202 (by decide) ?_
                  refine gv0i (As := [.int 50]) (rest := [.long (31 * xe)]) ⟨hx, hb, hml, hown, hts⟩ (c_X4_settles l E Xp Cp sz nw pf Bp g z lo up pk Tp g2 z2 lo2 up2 pk2 Rp ln cd 50 (by decide) (by decide) hg hz hZ) (cwV 1 hts gX4_digest_X4_settles rfl rfl rfl (by decide +kernel) ⟨Nat.le_of_ble_eq_true rfl, Nat.le_of_ble_eq_true rfl⟩) (va_recv hK hP (ci := 4) (q0 := 0) rfl rfl) hP hK hD hN hS hA rfl hl.1 rfl (Nat.le_of_ble_eq_true rfl) dX4_digest_204 ⟨Nat.le_refl _, Nat.le_refl _⟩ (fun H locs hP hD hS => ?_)
                  have hP : va_P E.1 vwCl (wO Xp Bp Tp Cp Rp ++ (wH E Cp sz nw pf ++ (wP E Bp g z lo up pk ++ (wP E Tp (va_cpy g g2 0 0 15) (((stC 50 (z 1) 202 1 0 (z, lo, up, pk)).2).1) (((stC 50 (z 1) 202 1 0 (z, lo, up, pk)).2).2.1) (((stC 50 (z 1) 202 1 0 (z, lo, up, pk)).2).2.2.1) (((stC 50 (z 1) 202 1 0 (z, lo, up, pk)).2).2.2.2) ++ (wR E Rp ln cd))))) H := hP
                  have hD : va_D _ (wO Xp Bp Tp Cp Rp ++ (wH E Cp sz nw pf ++ (wP E Bp g z lo up pk ++ (wP E Tp (va_cpy g g2 0 0 15) (((stC 50 (z 1) 202 1 0 (z, lo, up, pk)).2).1) (((stC 50 (z 1) 202 1 0 (z, lo, up, pk)).2).2.1) (((stC 50 (z 1) 202 1 0 (z, lo, up, pk)).2).2.2.1) (((stC 50 (z 1) 202 1 0 (z, lo, up, pk)).2).2.2.2) ++ (wR E Rp ln cd))))) := hD
                  refine lv_i2l hx hb dX4_digest_207 rfl ?_
                  refine lv_ladd hx hb dX4_digest_208 ?_
                  refine lv_lstore_n (lv' := [(1, .long ((31 * xe) + (Int32.toInt64 ((stC 50 (z 1) 202 1 0 (z, lo, up, pk)).1)))), (3, .int (nI i5)), (0, .ref Xp)]) hx hb dX4_digest_209 rfl hl (by decide) rfl (fun ls hl => ?_)
                  refine lv_ldc2 (own := RX4) (v := 31) hx hb hown (hts (.constantLong RX4 211 (31)) (List.mem_of_getElem? (i := 2) rfl)) dX4_digest_210 ?_
                  refine lv_lload_n hx hb dX4_digest_213 rfl (lv_at hl 0 rfl) ?_
                  refine lv_lmul hx hb dX4_digest_214 ?_
                  refine lv_aload_n hx hb dX4_digest_215 rfl (lv_at hl 2 rfl) ?_
                  refine va_get (D := E.1) (ci := 4) (v := .ref (Bp 0)) (C := RX4) (T := TX4) (N := 4) hx hb hts hiX4 hown hK hP 0 rfl rfl 0 (by decide) hf14 (fun _ h9 => h9) rfl dX4_digest_216 ?_
                  refine gvMi (wO Xp Bp Tp Cp Rp ++ (wH E Cp sz nw pf)) (wP E Tp (va_cpy g g2 0 0 15) (((stC 50 (z 1) 202 1 0 (z, lo, up, pk)).2).1) (((stC 50 (z 1) 202 1 0 (z, lo, up, pk)).2).2.1) (((stC 50 (z 1) 202 1 0 (z, lo, up, pk)).2).2.2.1) (((stC 50 (z 1) 202 1 0 (z, lo, up, pk)).2).2.2.2) ++ (wR E Rp ln cd)) (As := []) (rest := [.long (31 * ((31 * xe) + (Int32.toInt64 ((stC 50 (z 1) 202 1 0 (z, lo, up, pk)).1))))]) ⟨hx, hb, hml, hown, hts⟩ (c_X2_currentSpread l E Bp g z lo up pk hz) (cwV 0 hts gX4_digest_X2_currentSpread rfl rfl rfl (by decide +kernel) ⟨Nat.le_of_ble_eq_true rfl, Nat.le_of_ble_eq_true rfl⟩) (va_recv hK hP (ci := 2) (q0 := 3) rfl rfl) hP hK hD hN hS hA rfl hl.1 rfl (Nat.le_of_ble_eq_true rfl) dX4_digest_219 ⟨Nat.le_refl _, Nat.le_refl _⟩ (fun H locs hP hD hS => ?_)
                  have hP : va_P E.1 vwCl (wO Xp Bp Tp Cp Rp ++ (wH E Cp sz nw pf ++ (wP E Bp g z lo up pk ++ (wP E Tp (va_cpy g g2 0 0 15) (((stC 50 (z 1) 202 1 0 (z, lo, up, pk)).2).1) (((stC 50 (z 1) 202 1 0 (z, lo, up, pk)).2).2.1) (((stC 50 (z 1) 202 1 0 (z, lo, up, pk)).2).2.2.1) (((stC 50 (z 1) 202 1 0 (z, lo, up, pk)).2).2.2.2) ++ (wR E Rp ln cd))))) H := hP
                  have hD : va_D _ (wO Xp Bp Tp Cp Rp ++ (wH E Cp sz nw pf ++ (wP E Bp g z lo up pk ++ (wP E Tp (va_cpy g g2 0 0 15) (((stC 50 (z 1) 202 1 0 (z, lo, up, pk)).2).1) (((stC 50 (z 1) 202 1 0 (z, lo, up, pk)).2).2.1) (((stC 50 (z 1) 202 1 0 (z, lo, up, pk)).2).2.2.1) (((stC 50 (z 1) 202 1 0 (z, lo, up, pk)).2).2.2.2) ++ (wR E Rp ln cd))))) := hD
                  refine lv_i2l hx hb dX4_digest_222 rfl ?_
                  refine lv_ladd hx hb dX4_digest_223 ?_
                  refine lv_lstore_n (lv' := [(1, .long ((31 * ((31 * xe) + (Int32.toInt64 ((stC 50 (z 1) 202 1 0 (z, lo, up, pk)).1)))) + (Int32.toInt64 (unlike z)))), (3, .int (nI i5)), (0, .ref Xp)]) hx hb dX4_digest_224 rfl hl (by decide) rfl (fun ls hl => ?_)
                  refine lv_ldc2 (own := RX4) (v := 31) hx hb hown (hts (.constantLong RX4 211 (31)) (List.mem_of_getElem? (i := 2) rfl)) dX4_digest_225 ?_
                  refine lv_lload_n hx hb dX4_digest_228 rfl (lv_at hl 0 rfl) ?_
                  refine lv_lmul hx hb dX4_digest_229 ?_
                  refine lv_aload_n hx hb dX4_digest_230 rfl (lv_at hl 2 rfl) ?_
                  refine va_get (D := E.1) (ci := 4) (v := .ref (Rp 0)) (C := RX4) (T := TX4) (N := 4) hx hb hts hiX4 hown hK hP 0 rfl rfl 3 (by decide) hf31 (fun _ h9 => h9) rfl dX4_digest_231 ?_
                  refine va_get (D := E.1) (ci := 3) (v := .int ln) (C := RX3) (T := TX3) (N := 2) hx hb hts hiX3 hown hK hP 17 rfl rfl 1 (by decide) hf112 (fun _ h9 => h9) rfl dX4_digest_234 ?_
                  refine lv_i2l hx hb dX4_digest_237 rfl ?_
                  refine lv_ladd hx hb dX4_digest_238 ?_
                  refine lv_lstore_n (lv' := [(1, .long ((31 * ((31 * ((31 * xe) + (Int32.toInt64 ((stC 50 (z 1) 202 1 0 (z, lo, up, pk)).1)))) + (Int32.toInt64 (unlike z)))) + (Int32.toInt64 ln))), (3, .int (nI i5)), (0, .ref Xp)]) hx hb dX4_digest_239 rfl hl (by decide) rfl (fun ls hl => ?_)
                  refine lv_iconst (v := 0) hx hb dX4_digest_240 (by decide) ?_
                  refine lv_istore_n (lv' := [(3, .int 0), (1, .long ((31 * ((31 * ((31 * xe) + (Int32.toInt64 ((stC 50 (z 1) 202 1 0 (z, lo, up, pk)).1)))) + (Int32.toInt64 (unlike z)))) + (Int32.toInt64 ln))), (0, .ref Xp)]) hx hb dX4_digest_241 rfl hl (by decide) rfl (fun ls hl => ?_)
                  have L_242 : ∀ (n7 i7 : Nat) (xg : Int64) (H : Heap) (locs : List Loc) (ls : Array Slot), (i7 + n7 = L) → (dgL (fun i => (cd i).toInt64) n7 i7 xg = dgL (fun i => (cd i).toInt64) L 0 ((31 * ((31 * ((31 * xe) + (Int32.toInt64 ((stC 50 (z 1) 202 1 0 (z, lo, up, pk)).1)))) + (Int32.toInt64 (unlike z)))) + (Int32.toInt64 ln))) → va_P E.1 vwCl (wO Xp Bp Tp Cp Rp ++ (wH E Cp sz nw pf ++ (wP E Bp g z lo up pk ++ (wP E Tp (va_cpy g g2 0 0 15) (((stC 50 (z 1) 202 1 0 (z, lo, up, pk)).2).1) (((stC 50 (z 1) 202 1 0 (z, lo, up, pk)).2).2.1) (((stC 50 (z 1) 202 1 0 (z, lo, up, pk)).2).2.2.1) (((stC 50 (z 1) 202 1 0 (z, lo, up, pk)).2).2.2.2) ++ (wR E Rp ln cd))))) H → va_D (va_A (wO Xp Bp Tp Cp Rp ++ (wH E Cp sz nw pf ++ (wP E Bp g z lo up pk ++ (wP E Tp g2 z2 lo2 up2 pk2 ++ (wR E Rp ln cd))))) s.heap.size) (wO Xp Bp Tp Cp Rp ++ (wH E Cp sz nw pf ++ (wP E Bp g z lo up pk ++ (wP E Tp (va_cpy g g2 0 0 15) (((stC 50 (z 1) 202 1 0 (z, lo, up, pk)).2).1) (((stC 50 (z 1) 202 1 0 (z, lo, up, pk)).2).2.1) (((stC 50 (z 1) 202 1 0 (z, lo, up, pk)).2).2.2.1) (((stC 50 (z 1) 202 1 0 (z, lo, up, pk)).2).2.2.2) ++ (wR E Rp ln cd))))) → va_S (va_A (wO Xp Bp Tp Cp Rp ++ (wH E Cp sz nw pf ++ (wP E Bp g z lo up pk ++ (wP E Tp g2 z2 lo2 up2 pk2 ++ (wR E Rp ln cd))))) s.heap.size) s.heap H locs → lv_has ls 5 [(3, .int (nI i7)), (1, .long xg), (0, .ref Xp)] → W p l e (gR wsX4_digest 5 115) s m ([.ref Xp] : List Value).toArray below meth c H locs 0 0 (gMQ below E s (wO Xp Bp Tp Cp Rp ++ (wH E Cp sz nw pf ++ (wP E Bp g z lo up pk ++ (wP E Tp g2 z2 lo2 up2 pk2 ++ (wR E Rp ln cd))))) (wO Xp Bp Tp Cp Rp ++ (wH E Cp sz nw pf ++ (wP E Bp g z lo up pk ++ (wP E Tp (va_cpy g g2 0 0 15) (((stC 50 (z 1) 202 1 0 (z, lo, up, pk)).2).1) (((stC 50 (z 1) 202 1 0 (z, lo, up, pk)).2).2.1) (((stC 50 (z 1) 202 1 0 (z, lo, up, pk)).2).2.2.1) (((stC 50 (z 1) 202 1 0 (z, lo, up, pk)).2).2.2.2) ++ (wR E Rp ln cd))))) (some (.long (dgX sz nw pf z lo up pk ln cd L (stC 50 (z 1) 202 1 0 (z, lo, up, pk)).1))) [.ref Xp]) (F0 m 242 ls []) := by
                    intro n7
                    induction n7 with
                    | zero =>
                      intro i7 xg H locs ls hin7  hfn7 hP hD hS hl
                      refine lv_iload_n hx hb dX4_digest_242 rfl (lv_at hl 0 rfl) ?_
                      refine lv_aload_n hx hb dX4_digest_243 rfl (lv_at hl 2 rfl) ?_
                      refine va_get (D := E.1) (ci := 4) (v := .ref (Rp 0)) (C := RX4) (T := TX4) (N := 4) hx hb hts hiX4 hown hK hP 0 rfl rfl 3 (by decide) hf31 (fun _ h9 => h9) rfl dX4_digest_244 ?_
                      refine va_get (D := E.1) (ci := 3) (v := .int ln) (C := RX3) (T := TX3) (N := 2) hx hb hts hiX3 hown hK hP 17 rfl rfl 1 (by decide) hf112 (fun _ h9 => h9) rfl dX4_digest_247 ?_
                      refine lv_icmp_ge (tgt := 275) hx hb dX4_digest_250 (by decide) (fun c_250 => ?_) (fun c_250 => absurd (by rw [hL]; exact nI_le (by omega) (by omega)) c_250)
                      refine lv_lload_n hx hb dX4_digest_275 rfl (lv_at hl 1 rfl) ?_
                      exact gretj hx hb hr hlocks hP hD hS (hfn7.trans (by unfold dgX; rw [show xe = _ from hfn5, show xc = _ from hfn3, show xb = _ from hfn2, show xa = _ from hfn1])) (rfl) dX4_digest_276
                    | succ n7 ih7 =>
                      intro i7 xg H locs ls hin7  hfn7 hP hD hS hl
                      refine lv_iload_n hx hb dX4_digest_242 rfl (lv_at hl 0 rfl) ?_
                      refine lv_aload_n hx hb dX4_digest_243 rfl (lv_at hl 2 rfl) ?_
                      refine va_get (D := E.1) (ci := 4) (v := .ref (Rp 0)) (C := RX4) (T := TX4) (N := 4) hx hb hts hiX4 hown hK hP 0 rfl rfl 3 (by decide) hf31 (fun _ h9 => h9) rfl dX4_digest_244 ?_
                      refine va_get (D := E.1) (ci := 3) (v := .int ln) (C := RX3) (T := TX3) (N := 2) hx hb hts hiX3 hown hK hP 17 rfl rfl 1 (by decide) hf112 (fun _ h9 => h9) rfl dX4_digest_247 ?_
                      refine lv_icmp_ge (tgt := 275) hx hb dX4_digest_250 (by decide) (fun c_250 => absurd c_250 (by rw [hL]; exact nI_ge (by omega) (by omega))) (fun c_250 => ?_)
                      refine lv_ldc2 (own := RX4) (v := 31) hx hb hown (hts (.constantLong RX4 211 (31)) (List.mem_of_getElem? (i := 2) rfl)) dX4_digest_253 ?_
                      refine lv_lload_n hx hb dX4_digest_256 rfl (lv_at hl 1 rfl) ?_
                      refine lv_lmul hx hb dX4_digest_257 ?_
                      refine lv_aload_n hx hb dX4_digest_258 rfl (lv_at hl 2 rfl) ?_
                      refine va_get (D := E.1) (ci := 4) (v := .ref (Rp 0)) (C := RX4) (T := TX4) (N := 4) hx hb hts hiX4 hown hK hP 0 rfl rfl 3 (by decide) hf31 (fun _ h9 => h9) rfl dX4_digest_259 ?_
                      refine lv_iload_n hx hb dX4_digest_262 rfl (lv_at hl 0 rfl) ?_
                      refine gvMi (wO Xp Bp Tp Cp Rp ++ (wH E Cp sz nw pf ++ (wP E Bp g z lo up pk ++ (wP E Tp (va_cpy g g2 0 0 15) (((stC 50 (z 1) 202 1 0 (z, lo, up, pk)).2).1) (((stC 50 (z 1) 202 1 0 (z, lo, up, pk)).2).2.1) (((stC 50 (z 1) 202 1 0 (z, lo, up, pk)).2).2.2.1) (((stC 50 (z 1) 202 1 0 (z, lo, up, pk)).2).2.2.2))))) ([] : va_W) (As := [.int (nI i7)]) (rest := [.long (31 * xg)]) ⟨hx, hb, hml, hown, hts⟩ (c_X3_codeAt l E Rp ln cd i7 (by omega)) (cwV 1 hts gX4_digest_X3_codeAt rfl rfl rfl (by decide +kernel) ⟨Nat.le_of_ble_eq_true rfl, Nat.le_of_ble_eq_true rfl⟩) (va_recv hK hP (ci := 3) (q0 := 17) rfl rfl) hP hK hD hN hS hA rfl hl.1 rfl (Nat.le_of_ble_eq_true rfl) dX4_digest_263 ⟨Nat.le_refl _, Nat.le_refl _⟩ (fun H locs hP hD hS => ?_)
                      have hP : va_P E.1 vwCl (wO Xp Bp Tp Cp Rp ++ (wH E Cp sz nw pf ++ (wP E Bp g z lo up pk ++ (wP E Tp (va_cpy g g2 0 0 15) (((stC 50 (z 1) 202 1 0 (z, lo, up, pk)).2).1) (((stC 50 (z 1) 202 1 0 (z, lo, up, pk)).2).2.1) (((stC 50 (z 1) 202 1 0 (z, lo, up, pk)).2).2.2.1) (((stC 50 (z 1) 202 1 0 (z, lo, up, pk)).2).2.2.2) ++ (wR E Rp ln cd))))) H := hP
                      have hD : va_D _ (wO Xp Bp Tp Cp Rp ++ (wH E Cp sz nw pf ++ (wP E Bp g z lo up pk ++ (wP E Tp (va_cpy g g2 0 0 15) (((stC 50 (z 1) 202 1 0 (z, lo, up, pk)).2).1) (((stC 50 (z 1) 202 1 0 (z, lo, up, pk)).2).2.1) (((stC 50 (z 1) 202 1 0 (z, lo, up, pk)).2).2.2.1) (((stC 50 (z 1) 202 1 0 (z, lo, up, pk)).2).2.2.2) ++ (wR E Rp ln cd))))) := hD
                      refine lv_i2l hx hb dX4_digest_266 rfl ?_
                      refine lv_ladd hx hb dX4_digest_267 ?_
                      refine lv_lstore_n (lv' := [(1, .long ((31 * xg) + (Int32.toInt64 (cd i7)))), (3, .int (nI i7)), (0, .ref Xp)]) hx hb dX4_digest_268 rfl hl (by decide) rfl (fun ls hl => ?_)
                      refine lv_iinc (v := nI (i7 + 1)) (lv' := [(3, .int (nI (i7 + 1))), (1, .long ((31 * xg) + (Int32.toInt64 (cd i7)))), (0, .ref Xp)]) hx hb dX4_digest_269 hl (k := 1) rfl (nI_1 _) (by decide) rfl (fun ls hl => ?_)
                      refine lv_goto (tgt := 242) hx hb dX4_digest_272 (by decide) ?_
                      exact ih7 (i7 + 1) ((31 * xg) + (Int32.toInt64 (cd i7))) H locs ls (by omega)  (hfn7) hP hD hS (lv_sub hl [0, 1, 2] rfl)
                  exact L_242 (L) (0) ((31 * ((31 * ((31 * xe) + (Int32.toInt64 ((stC 50 (z 1) 202 1 0 (z, lo, up, pk)).1)))) + (Int32.toInt64 (unlike z)))) + (Int32.toInt64 ln)) H locs ls (by omega)  rfl hP hD hS (lv_sub hl [0, 1, 2] rfl)
                | succ n5 ih5 =>
                  intro i5 xe H locs ls hin5  hfn5 hP hD hS hl
                  refine lv_iload_n hx hb dX4_digest_145 rfl (lv_at hl 0 rfl) ?_
                  refine lv_aload_n hx hb dX4_digest_146 rfl (lv_at hl 2 rfl) ?_
                  refine va_get (D := E.1) (ci := 4) (v := .ref (Cp 0)) (C := RX4) (T := TX4) (N := 4) hx hb hts hiX4 hown hK hP 0 rfl rfl 2 (by decide) hf24 (fun _ h9 => h9) rfl dX4_digest_147 ?_
                  refine va_get (D := E.1) (ci := 0) (v := .int sz) (C := RX0) (T := TX0) (N := 3) hx hb hts hiX0 hown hK hP 1 rfl rfl 1 (by decide) hf156 (fun _ h9 => h9) rfl dX4_digest_150 ?_
                  refine lv_icmp_ge (tgt := 196) hx hb dX4_digest_153 (by decide) (fun c_153 => absurd c_153 (by rw [hrk.2.2.1]; exact nI_ge (by omega) (by omega))) (fun c_153 => ?_)
                  refine lv_iconst (v := 0) hx hb dX4_digest_156 (by decide) ?_
                  refine lv_istore (lv' := [(4, .int 0), (3, .int (nI i5)), (1, .long xe), (0, .ref Xp)]) hx hb dX4_digest_157 hl (by decide) rfl (fun ls hl => ?_)
                  have L_159 : ∀ (n6 i6 : Nat) (xf : Int64) (H : Heap) (locs : List Loc) (ls : Array Slot), (i6 + n6 = 6) → (dgL (fun j => (pf ((nw.toNatClampNeg + 16 - i5) % 16 * 6 + j)).toInt64) n6 i6 xf = dgL (fun j => (pf ((nw.toNatClampNeg + 16 - i5) % 16 * 6 + j)).toInt64) 6 0 xe) → va_P E.1 vwCl (wO Xp Bp Tp Cp Rp ++ (wH E Cp sz nw pf ++ (wP E Bp g z lo up pk ++ (wP E Tp g2 z2 lo2 up2 pk2 ++ (wR E Rp ln cd))))) H → va_D (va_A (wO Xp Bp Tp Cp Rp ++ (wH E Cp sz nw pf ++ (wP E Bp g z lo up pk ++ (wP E Tp g2 z2 lo2 up2 pk2 ++ (wR E Rp ln cd))))) s.heap.size) (wO Xp Bp Tp Cp Rp ++ (wH E Cp sz nw pf ++ (wP E Bp g z lo up pk ++ (wP E Tp g2 z2 lo2 up2 pk2 ++ (wR E Rp ln cd))))) → va_S (va_A (wO Xp Bp Tp Cp Rp ++ (wH E Cp sz nw pf ++ (wP E Bp g z lo up pk ++ (wP E Tp g2 z2 lo2 up2 pk2 ++ (wR E Rp ln cd))))) s.heap.size) s.heap H locs → lv_has ls 5 [(4, .int (nI i6)), (3, .int (nI i5)), (1, .long xf), (0, .ref Xp)] → W p l e (gR wsX4_digest 5 115) s m ([.ref Xp] : List Value).toArray below meth c H locs 0 0 (gMQ below E s (wO Xp Bp Tp Cp Rp ++ (wH E Cp sz nw pf ++ (wP E Bp g z lo up pk ++ (wP E Tp g2 z2 lo2 up2 pk2 ++ (wR E Rp ln cd))))) (wO Xp Bp Tp Cp Rp ++ (wH E Cp sz nw pf ++ (wP E Bp g z lo up pk ++ (wP E Tp (va_cpy g g2 0 0 15) (((stC 50 (z 1) 202 1 0 (z, lo, up, pk)).2).1) (((stC 50 (z 1) 202 1 0 (z, lo, up, pk)).2).2.1) (((stC 50 (z 1) 202 1 0 (z, lo, up, pk)).2).2.2.1) (((stC 50 (z 1) 202 1 0 (z, lo, up, pk)).2).2.2.2) ++ (wR E Rp ln cd))))) (some (.long (dgX sz nw pf z lo up pk ln cd L (stC 50 (z 1) 202 1 0 (z, lo, up, pk)).1))) [.ref Xp]) (F0 m 159 ls []) := by
                    intro n6
                    induction n6 with
                    | zero =>
                      intro i6 xf H locs ls hin6  hfn6 hP hD hS hl
                      refine lv_iload hx hb dX4_digest_159 (lv_at hl 0 rfl) ?_
                      refine lv_bipush (v := 6) hx hb dX4_digest_161 (by decide) ?_
                      refine lv_icmp_ge (tgt := 190) hx hb dX4_digest_163 (by decide) (fun c_163 => ?_) (fun c_163 => absurd (nI_le (a := 6) (by omega) (by omega)) c_163)
                      refine lv_iinc (v := nI (i5 + 1)) (lv' := [(3, .int (nI (i5 + 1))), (4, .int (nI i6)), (1, .long xf), (0, .ref Xp)]) hx hb dX4_digest_190 hl (k := 1) rfl (nI_1 _) (by decide) rfl (fun ls hl => ?_)
                      refine lv_goto (tgt := 145) hx hb dX4_digest_193 (by decide) ?_
                      exact ih5 (i5 + 1) xf H locs ls (by omega)  (by rw [show xf = dgL (fun j => (pf ((nw.toNatClampNeg + 16 - i5) % 16 * 6 + j)).toInt64) 6 0 xe from hfn6]; exact hfn5) hP hD hS (lv_sub hl [0, 2, 3] rfl)
                    | succ n6 ih6 =>
                      intro i6 xf H locs ls hin6  hfn6 hP hD hS hl
                      refine lv_iload hx hb dX4_digest_159 (lv_at hl 0 rfl) ?_
                      refine lv_bipush (v := 6) hx hb dX4_digest_161 (by decide) ?_
                      refine lv_icmp_ge (tgt := 190) hx hb dX4_digest_163 (by decide) (fun c_163 => absurd c_163 (nI_ge (b := 6) (by omega) (by omega))) (fun c_163 => ?_)
                      refine lv_ldc2 (own := RX4) (v := 31) hx hb hown (hts (.constantLong RX4 211 (31)) (List.mem_of_getElem? (i := 2) rfl)) dX4_digest_166 ?_
                      refine lv_lload_n hx hb dX4_digest_169 rfl (lv_at hl 2 rfl) ?_
                      refine lv_lmul hx hb dX4_digest_170 ?_
                      refine lv_aload_n hx hb dX4_digest_171 rfl (lv_at hl 3 rfl) ?_
                      refine va_get (D := E.1) (ci := 4) (v := .ref (Cp 0)) (C := RX4) (T := TX4) (N := 4) hx hb hts hiX4 hown hK hP 0 rfl rfl 2 (by decide) hf24 (fun _ h9 => h9) rfl dX4_digest_172 ?_
                      refine lv_iload_n hx hb dX4_digest_175 rfl (lv_at hl 1 rfl) ?_
                      refine lv_iload hx hb dX4_digest_176 (lv_at hl 0 rfl) ?_
                      refine gvMi (wO Xp Bp Tp Cp Rp) (wP E Bp g z lo up pk ++ (wP E Tp g2 z2 lo2 up2 pk2 ++ (wR E Rp ln cd))) (As := [.int (nI i5), .int (nI i6)]) (rest := [.long (31 * xf)]) ⟨hx, hb, hml, hown, hts⟩ (c_X0_part l E Cp sz nw pf nw.toNatClampNeg i5 i6 hrk.1 hrk.2.1 (by omega) (by omega)) (cwV 2 hts gX4_digest_X0_part rfl rfl rfl (by decide +kernel) ⟨Nat.le_of_ble_eq_true rfl, Nat.le_of_ble_eq_true rfl⟩) (va_recv hK hP (ci := 0) (q0 := 1) rfl rfl) hP hK hD hN hS hA rfl hl.1 rfl (Nat.le_of_ble_eq_true rfl) dX4_digest_178 ⟨Nat.le_refl _, Nat.le_refl _⟩ (fun H locs hP hD hS => ?_)
                      have hP : va_P E.1 vwCl (wO Xp Bp Tp Cp Rp ++ (wH E Cp sz nw pf ++ (wP E Bp g z lo up pk ++ (wP E Tp g2 z2 lo2 up2 pk2 ++ (wR E Rp ln cd))))) H := hP
                      have hD : va_D _ (wO Xp Bp Tp Cp Rp ++ (wH E Cp sz nw pf ++ (wP E Bp g z lo up pk ++ (wP E Tp g2 z2 lo2 up2 pk2 ++ (wR E Rp ln cd))))) := hD
                      refine lv_i2l hx hb dX4_digest_181 rfl ?_
                      refine lv_ladd hx hb dX4_digest_182 ?_
                      refine lv_lstore_n (lv' := [(1, .long ((31 * xf) + (Int32.toInt64 (pf ((nw.toNatClampNeg + 16 - i5) % 16 * 6 + i6))))), (4, .int (nI i6)), (3, .int (nI i5)), (0, .ref Xp)]) hx hb dX4_digest_183 rfl hl (by decide) rfl (fun ls hl => ?_)
                      refine lv_iinc (v := nI (i6 + 1)) (lv' := [(4, .int (nI (i6 + 1))), (1, .long ((31 * xf) + (Int32.toInt64 (pf ((nw.toNatClampNeg + 16 - i5) % 16 * 6 + i6))))), (3, .int (nI i5)), (0, .ref Xp)]) hx hb dX4_digest_184 hl (k := 1) rfl (nI_1 _) (by decide) rfl (fun ls hl => ?_)
                      refine lv_goto (tgt := 159) hx hb dX4_digest_187 (by decide) ?_
                      exact ih6 (i6 + 1) ((31 * xf) + (Int32.toInt64 (pf ((nw.toNatClampNeg + 16 - i5) % 16 * 6 + i6)))) H locs ls (by omega)  (hfn6) hP hD hS (lv_sub hl [0, 2, 1, 3] rfl)
                  exact L_159 (6) (0) xe H locs ls (by omega)  rfl hP hD hS (lv_sub hl [0, 1, 2, 3] rfl)
              exact L_145 (sz.toNatClampNeg) (0) xc H locs ls (by omega)  rfl hP hD hS (lv_sub hl [0, 1, 2] rfl)
            | succ n3 ih3 =>
              intro i3 xc H locs ls hin3  hfn3 hP hD hS hl
              refine lv_iload_n hx hb dX4_digest_76 rfl (lv_at hl 0 rfl) ?_
              refine lv_aload_n hx hb dX4_digest_77 rfl (lv_at hl 2 rfl) ?_
              refine va_get (D := E.1) (ci := 4) (v := .ref (Bp 0)) (C := RX4) (T := TX4) (N := 4) hx hb hts hiX4 hown hK hP 0 rfl rfl 0 (by decide) hf14 (fun _ h9 => h9) rfl dX4_digest_78 ?_
              refine va_get (D := E.1) (ci := 2) (v := .int (z 15)) (C := RX2) (T := TX2) (N := 17) hx hb hts hiX2 hown hK hP 3 rfl rfl 2 (by decide) hf42 (fun _ h9 => h9) rfl dX4_digest_81 ?_
              refine lv_icmp_ge (tgt := 143) hx hb dX4_digest_84 (by decide) (fun c_84 => absurd c_84 (by rw [hz.1]; exact nI_ge (by omega) (by omega))) (fun c_84 => ?_)
              refine lv_iload_n hx hb dX4_digest_87 rfl (lv_at hl 0 rfl) ?_
              refine lv_aload_n hx hb dX4_digest_88 rfl (lv_at hl 2 rfl) ?_
              refine va_get (D := E.1) (ci := 4) (v := .ref (Bp 0)) (C := RX4) (T := TX4) (N := 4) hx hb hts hiX4 hown hK hP 0 rfl rfl 0 (by decide) hf14 (fun _ h9 => h9) rfl dX4_digest_89 ?_
              refine va_get (D := E.1) (ci := 2) (v := .ref (Bp 2)) (C := RX2) (T := TX2) (N := 17) hx hb hts hiX2 hown hK hP 3 rfl rfl 1 (by decide) hf143 (fun _ h9 => h9) rfl dX4_digest_92 ?_
              refine va_alen hx hb hK hP 5 1 rfl rfl (v := 4) rfl dX4_digest_95 ?_
              refine lv_icmp_ge (tgt := 143) hx hb dX4_digest_96 (by decide) (fun c_96 => absurd c_96 (nI_ge (b := 4) (by omega) (by omega))) (fun c_96 => ?_)
              refine lv_iconst (v := 0) hx hb dX4_digest_99 (by decide) ?_
              refine lv_istore (lv' := [(4, .int 0), (3, .int (nI i3)), (1, .long xc), (0, .ref Xp)]) hx hb dX4_digest_100 hl (by decide) rfl (fun ls hl => ?_)
              have L_102 : ∀ (n4 i4 : Nat) (xd : Int64) (H : Heap) (locs : List Loc) (ls : Array Slot), (i4 + n4 = 7) → (dgL (fun j => (z (35 + 7 * i3 + j)).toInt64) n4 i4 xd = dgL (fun j => (z (35 + 7 * i3 + j)).toInt64) 7 0 xc) → va_P E.1 vwCl (wO Xp Bp Tp Cp Rp ++ (wH E Cp sz nw pf ++ (wP E Bp g z lo up pk ++ (wP E Tp g2 z2 lo2 up2 pk2 ++ (wR E Rp ln cd))))) H → va_D (va_A (wO Xp Bp Tp Cp Rp ++ (wH E Cp sz nw pf ++ (wP E Bp g z lo up pk ++ (wP E Tp g2 z2 lo2 up2 pk2 ++ (wR E Rp ln cd))))) s.heap.size) (wO Xp Bp Tp Cp Rp ++ (wH E Cp sz nw pf ++ (wP E Bp g z lo up pk ++ (wP E Tp g2 z2 lo2 up2 pk2 ++ (wR E Rp ln cd))))) → va_S (va_A (wO Xp Bp Tp Cp Rp ++ (wH E Cp sz nw pf ++ (wP E Bp g z lo up pk ++ (wP E Tp g2 z2 lo2 up2 pk2 ++ (wR E Rp ln cd))))) s.heap.size) s.heap H locs → lv_has ls 5 [(4, .int (nI i4)), (3, .int (nI i3)), (1, .long xd), (0, .ref Xp)] → W p l e (gR wsX4_digest 5 115) s m ([.ref Xp] : List Value).toArray below meth c H locs 0 0 (gMQ below E s (wO Xp Bp Tp Cp Rp ++ (wH E Cp sz nw pf ++ (wP E Bp g z lo up pk ++ (wP E Tp g2 z2 lo2 up2 pk2 ++ (wR E Rp ln cd))))) (wO Xp Bp Tp Cp Rp ++ (wH E Cp sz nw pf ++ (wP E Bp g z lo up pk ++ (wP E Tp (va_cpy g g2 0 0 15) (((stC 50 (z 1) 202 1 0 (z, lo, up, pk)).2).1) (((stC 50 (z 1) 202 1 0 (z, lo, up, pk)).2).2.1) (((stC 50 (z 1) 202 1 0 (z, lo, up, pk)).2).2.2.1) (((stC 50 (z 1) 202 1 0 (z, lo, up, pk)).2).2.2.2) ++ (wR E Rp ln cd))))) (some (.long (dgX sz nw pf z lo up pk ln cd L (stC 50 (z 1) 202 1 0 (z, lo, up, pk)).1))) [.ref Xp]) (F0 m 102 ls []) := by
                intro n4
                induction n4 with
                | zero =>
                  intro i4 xd H locs ls hin4  hfn4 hP hD hS hl
                  refine lv_iload hx hb dX4_digest_102 (lv_at hl 0 rfl) ?_
                  refine lv_bipush (v := 7) hx hb dX4_digest_104 (by decide) ?_
                  refine lv_icmp_ge (tgt := 137) hx hb dX4_digest_106 (by decide) (fun c_106 => ?_) (fun c_106 => absurd (nI_le (a := 7) (by omega) (by omega)) c_106)
                  refine lv_iinc (v := nI (i3 + 1)) (lv' := [(3, .int (nI (i3 + 1))), (4, .int (nI i4)), (1, .long xd), (0, .ref Xp)]) hx hb dX4_digest_137 hl (k := 1) rfl (nI_1 _) (by decide) rfl (fun ls hl => ?_)
                  refine lv_goto (tgt := 76) hx hb dX4_digest_140 (by decide) ?_
                  exact ih3 (i3 + 1) xd H locs ls (by omega)  (by rw [show xd = dgL (fun j => (z (35 + 7 * i3 + j)).toInt64) 7 0 xc from hfn4]; exact hfn3) hP hD hS (lv_sub hl [0, 2, 3] rfl)
                | succ n4 ih4 =>
                  intro i4 xd H locs ls hin4  hfn4 hP hD hS hl
                  refine lv_iload hx hb dX4_digest_102 (lv_at hl 0 rfl) ?_
                  refine lv_bipush (v := 7) hx hb dX4_digest_104 (by decide) ?_
                  refine lv_icmp_ge (tgt := 137) hx hb dX4_digest_106 (by decide) (fun c_106 => absurd c_106 (nI_ge (b := 7) (by omega) (by omega))) (fun c_106 => ?_)
                  refine lv_ldc2 (own := RX4) (v := 31) hx hb hown (hts (.constantLong RX4 211 (31)) (List.mem_of_getElem? (i := 2) rfl)) dX4_digest_109 ?_
                  refine lv_lload_n hx hb dX4_digest_112 rfl (lv_at hl 2 rfl) ?_
                  refine lv_lmul hx hb dX4_digest_113 ?_
                  refine lv_aload_n hx hb dX4_digest_114 rfl (lv_at hl 3 rfl) ?_
                  refine va_get (D := E.1) (ci := 4) (v := .ref (Bp 0)) (C := RX4) (T := TX4) (N := 4) hx hb hts hiX4 hown hK hP 0 rfl rfl 0 (by decide) hf14 (fun _ h9 => h9) rfl dX4_digest_115 ?_
                  refine va_get (D := E.1) (ci := 2) (v := .ref (Bp 2)) (C := RX2) (T := TX2) (N := 17) hx hb hts hiX2 hown hK hP 3 rfl rfl 1 (by decide) hf143 (fun _ h9 => h9) rfl dX4_digest_118 ?_
                  refine lv_iload_n hx hb dX4_digest_121 rfl (lv_at hl 1 rfl) ?_
                  refine galdq (b := Bp (3 + i3)) hx hb hK hP 5 rfl i3 (rfl) (by omega) (by decide) rfl dX4_digest_122 ?_
                  refine lv_iload hx hb dX4_digest_123 (lv_at hl 0 rfl) ?_
                  refine gvKi (3 + (3 + i3)) (As := [.int (nI i4)]) (rest := [.long (31 * xd)]) ⟨hx, hb, hml, hown, hts⟩ (c_X1_property l E (Bp (3 + i3)) (fun j => z (35 + 7 * i3 + j)) i4 (by omega)) (cwV 1 hts gX4_digest_X1_property rfl rfl rfl (by decide +kernel) ⟨Nat.le_of_ble_eq_true rfl, Nat.le_of_ble_eq_true rfl⟩) (va_recv hK hP (ci := 1) (q0 := (3 + (3 + i3))) rfl (gat3 (X := (wO Xp Bp Tp Cp Rp ++ (wH E Cp sz nw pf))) (wc := (wP E Bp g z lo up pk)) (Y := (wP E Tp g2 z2 lo2 up2 pk2 ++ (wR E Rp ln cd))) (wP_at (k := i3) (by omega)))) hP hK hD hN hS hA (gat3 (X := (wO Xp Bp Tp Cp Rp ++ (wH E Cp sz nw pf))) (wc := (wP E Bp g z lo up pk)) (Y := (wP E Tp g2 z2 lo2 up2 pk2 ++ (wR E Rp ln cd))) (wP_at (k := i3) (by omega))) rfl hl.1 rfl (Nat.le_of_ble_eq_true rfl) dX4_digest_125 ⟨Nat.le_refl _, Nat.le_refl _⟩ (fun H locs hP hD hS => ?_)
                  have hP : va_P E.1 vwCl (wO Xp Bp Tp Cp Rp ++ (wH E Cp sz nw pf ++ (wP E Bp g z lo up pk ++ (wP E Tp g2 z2 lo2 up2 pk2 ++ (wR E Rp ln cd))))) H := Eq.mp (congrArg (fun w => va_P E.1 vwCl w H) (gset_same (k := 3 + (3 + i3)) (gat3 (X := (wO Xp Bp Tp Cp Rp ++ (wH E Cp sz nw pf))) (wc := (wP E Bp g z lo up pk)) (Y := (wP E Tp g2 z2 lo2 up2 pk2 ++ (wR E Rp ln cd))) (wP_at (k := i3) (by omega))))) hP
                  have hD : va_D (va_A (wO Xp Bp Tp Cp Rp ++ (wH E Cp sz nw pf ++ (wP E Bp g z lo up pk ++ (wP E Tp g2 z2 lo2 up2 pk2 ++ (wR E Rp ln cd))))) s.heap.size) (wO Xp Bp Tp Cp Rp ++ (wH E Cp sz nw pf ++ (wP E Bp g z lo up pk ++ (wP E Tp g2 z2 lo2 up2 pk2 ++ (wR E Rp ln cd))))) := Eq.mp (congrArg (fun w => va_D (va_A (wO Xp Bp Tp Cp Rp ++ (wH E Cp sz nw pf ++ (wP E Bp g z lo up pk ++ (wP E Tp g2 z2 lo2 up2 pk2 ++ (wR E Rp ln cd))))) s.heap.size) w) (gset_same (k := 3 + (3 + i3)) (gat3 (X := (wO Xp Bp Tp Cp Rp ++ (wH E Cp sz nw pf))) (wc := (wP E Bp g z lo up pk)) (Y := (wP E Tp g2 z2 lo2 up2 pk2 ++ (wR E Rp ln cd))) (wP_at (k := i3) (by omega))))) hD
                  refine lv_i2l hx hb dX4_digest_128 rfl ?_
                  refine lv_ladd hx hb dX4_digest_129 ?_
                  refine lv_lstore_n (lv' := [(1, .long ((31 * xd) + (Int32.toInt64 (z (35 + 7 * i3 + i4))))), (4, .int (nI i4)), (3, .int (nI i3)), (0, .ref Xp)]) hx hb dX4_digest_130 rfl hl (by decide) rfl (fun ls hl => ?_)
                  refine lv_iinc (v := nI (i4 + 1)) (lv' := [(4, .int (nI (i4 + 1))), (1, .long ((31 * xd) + (Int32.toInt64 (z (35 + 7 * i3 + i4))))), (3, .int (nI i3)), (0, .ref Xp)]) hx hb dX4_digest_131 hl (k := 1) rfl (nI_1 _) (by decide) rfl (fun ls hl => ?_)
                  refine lv_goto (tgt := 102) hx hb dX4_digest_134 (by decide) ?_
                  exact ih4 (i4 + 1) ((31 * xd) + (Int32.toInt64 (z (35 + 7 * i3 + i4)))) H locs ls (by omega)  (hfn4) hP hD hS (lv_sub hl [0, 2, 1, 3] rfl)
              exact L_102 (7) (0) xc H locs ls (by omega)  rfl hP hD hS (lv_sub hl [0, 1, 2, 3] rfl)
          exact L_76 (nOf z) (0) xb H locs ls (by omega)  rfl hP hD hS (lv_sub hl [0, 1, 2] rfl)
        | succ n2 ih2 =>
          intro i2 xb H locs ls hin2  hfn2 hP hD hS hl
          refine lv_iload_n hx hb dX4_digest_33 rfl (lv_at hl 0 rfl) ?_
          refine lv_bipush (v := 15) hx hb dX4_digest_34 (by decide) ?_
          refine lv_icmp_ge (tgt := 74) hx hb dX4_digest_36 (by decide) (fun c_36 => absurd c_36 (nI_ge (b := 15) (by omega) (by omega))) (fun c_36 => ?_)
          refine lv_iload_n hx hb dX4_digest_39 rfl (lv_at hl 0 rfl) ?_
          refine lv_aload_n hx hb dX4_digest_40 rfl (lv_at hl 2 rfl) ?_
          refine va_get (D := E.1) (ci := 4) (v := .ref (Bp 0)) (C := RX4) (T := TX4) (N := 4) hx hb hts hiX4 hown hK hP 0 rfl rfl 0 (by decide) hf14 (fun _ h9 => h9) rfl dX4_digest_41 ?_
          refine va_get (D := E.1) (ci := 2) (v := .ref (Bp 1)) (C := RX2) (T := TX2) (N := 17) hx hb hts hiX2 hown hK hP 3 rfl rfl 0 (by decide) hf67 (fun _ h9 => h9) rfl dX4_digest_44 ?_
          refine va_alen hx hb hK hP 4 0 rfl rfl (v := 15) rfl dX4_digest_47 ?_
          refine lv_icmp_ge (tgt := 74) hx hb dX4_digest_48 (by decide) (fun c_48 => absurd c_48 (nI_ge (b := 15) (by omega) (by omega))) (fun c_48 => ?_)
          refine lv_ldc2 (own := RX4) (v := 31) hx hb hown (hts (.constantLong RX4 211 (31)) (List.mem_of_getElem? (i := 2) rfl)) dX4_digest_51 ?_
          refine lv_lload_n hx hb dX4_digest_54 rfl (lv_at hl 1 rfl) ?_
          refine lv_lmul hx hb dX4_digest_55 ?_
          refine lv_aload_n hx hb dX4_digest_56 rfl (lv_at hl 2 rfl) ?_
          refine va_get (D := E.1) (ci := 4) (v := .ref (Bp 0)) (C := RX4) (T := TX4) (N := 4) hx hb hts hiX4 hown hK hP 0 rfl rfl 0 (by decide) hf14 (fun _ h9 => h9) rfl dX4_digest_57 ?_
          refine va_get (D := E.1) (ci := 2) (v := .ref (Bp 1)) (C := RX2) (T := TX2) (N := 17) hx hb hts hiX2 hown hK hP 3 rfl rfl 0 (by decide) hf67 (fun _ h9 => h9) rfl dX4_digest_60 ?_
          refine lv_iload_n hx hb dX4_digest_63 rfl (lv_at hl 0 rfl) ?_
          refine gald (x := z i2) hx hb hK hP 4 rfl i2 (rfl) (by omega) (by decide) (hg i2 (by omega)) dX4_digest_64 ?_
          refine lv_i2l hx hb dX4_digest_65 rfl ?_
          refine lv_ladd hx hb dX4_digest_66 ?_
          refine lv_lstore_n (lv' := [(1, .long ((31 * xb) + (Int32.toInt64 (z i2)))), (3, .int (nI i2)), (0, .ref Xp)]) hx hb dX4_digest_67 rfl hl (by decide) rfl (fun ls hl => ?_)
          refine lv_iinc (v := nI (i2 + 1)) (lv' := [(3, .int (nI (i2 + 1))), (1, .long ((31 * xb) + (Int32.toInt64 (z i2)))), (0, .ref Xp)]) hx hb dX4_digest_68 hl (k := 1) rfl (nI_1 _) (by decide) rfl (fun ls hl => ?_)
          refine lv_goto (tgt := 33) hx hb dX4_digest_71 (by decide) ?_
          exact ih2 (i2 + 1) ((31 * xb) + (Int32.toInt64 (z i2))) H locs ls (by omega)  (hfn2) hP hD hS (lv_sub hl [0, 1, 2] rfl)
      exact L_33 (15) (0) xa H locs ls (by omega)  rfl hP hD hS (lv_sub hl [0, 1, 2] rfl)
    | succ n1 ih1 =>
      intro i1 xa H locs ls hin1  hfn1 hP hD hS hl
      refine lv_iload_n hx hb dX4_digest_6 rfl (lv_at hl 0 rfl) ?_
      refine lv_bipush (v := 15) hx hb dX4_digest_7 (by decide) ?_
      refine lv_icmp_ge (tgt := 31) hx hb dX4_digest_9 (by decide) (fun c_9 => absurd c_9 (nI_ge (b := 15) (by omega) (by omega))) (fun c_9 => ?_)
      refine lv_ldc2 (own := RX4) (v := 31) hx hb hown (hts (.constantLong RX4 211 (31)) (List.mem_of_getElem? (i := 2) rfl)) dX4_digest_12 ?_
      refine lv_lload_n hx hb dX4_digest_15 rfl (lv_at hl 1 rfl) ?_
      refine lv_lmul hx hb dX4_digest_16 ?_
      refine lv_aload_n hx hb dX4_digest_17 rfl (lv_at hl 2 rfl) ?_
      refine lv_iload_n hx hb dX4_digest_18 rfl (lv_at hl 0 rfl) ?_
      refine gv0i (As := [.int (nI i1)]) (rest := [.long (31 * xa)]) ⟨hx, hb, hml, hown, hts⟩ (c_X4_number l E Xp Cp sz nw pf Bp g z lo up pk Tp g2 z2 lo2 up2 pk2 Rp ln cd i1 hz (by omega)) (cwV 1 hts gX4_digest_X4_number rfl rfl rfl (by decide +kernel) ⟨Nat.le_of_ble_eq_true rfl, Nat.le_of_ble_eq_true rfl⟩) (va_recv hK hP (ci := 4) (q0 := 0) rfl rfl) hP hK hD hN hS hA rfl hl.1 rfl (Nat.le_of_ble_eq_true rfl) dX4_digest_19 ⟨Nat.le_refl _, Nat.le_refl _⟩ (fun H locs hP hD hS => ?_)
      have hP : va_P E.1 vwCl (wO Xp Bp Tp Cp Rp ++ (wH E Cp sz nw pf ++ (wP E Bp g z lo up pk ++ (wP E Tp g2 z2 lo2 up2 pk2 ++ (wR E Rp ln cd))))) H := hP
      have hD : va_D _ (wO Xp Bp Tp Cp Rp ++ (wH E Cp sz nw pf ++ (wP E Bp g z lo up pk ++ (wP E Tp g2 z2 lo2 up2 pk2 ++ (wR E Rp ln cd))))) := hD
      refine lv_i2l hx hb dX4_digest_22 rfl ?_
      refine lv_ladd hx hb dX4_digest_23 ?_
      refine lv_lstore_n (lv' := [(1, .long ((31 * xa) + (Int32.toInt64 (nuX i1 sz z lo up pk)))), (3, .int (nI i1)), (0, .ref Xp)]) hx hb dX4_digest_24 rfl hl (by decide) rfl (fun ls hl => ?_)
      refine lv_iinc (v := nI (i1 + 1)) (lv' := [(3, .int (nI (i1 + 1))), (1, .long ((31 * xa) + (Int32.toInt64 (nuX i1 sz z lo up pk)))), (0, .ref Xp)]) hx hb dX4_digest_25 hl (k := 1) rfl (nI_1 _) (by decide) rfl (fun ls hl => ?_)
      refine lv_goto (tgt := 6) hx hb dX4_digest_28 (by decide) ?_
      exact ih1 (i1 + 1) ((31 * xa) + (Int32.toInt64 (nuX i1 sz z lo up pk))) H locs ls (by omega)  (hfn1) hP hD hS (lv_sub hl [0, 1, 2] rfl)
  exact L_6 (15) (0) 2017 s.heap [] ls (by omega)  rfl hP hD hS (lv_sub hl [0, 1, 2] rfl)
