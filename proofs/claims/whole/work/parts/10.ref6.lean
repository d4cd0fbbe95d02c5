set_option maxHeartbeats 4000000 in
set_option maxRecDepth 100000 in
theorem c_X5_play (l : Launch) (E : EE) (A : Nat → Nat) (G z a t r : Nat → Int32) (h : Int64) (L : Nat) (hz : zOK z) (hL : G 3 = nI L) (hL5 : L ≤ 50) : GM l yX5_play wsX5_play 7 162 E (wM E A G z a t r h) [.ref (A 0)] (wM E A (plGG t L z G r) (plZ t L z G r) a t (plRR t L G r) h) (some (.int (plD t L z G r))) := by
  intro sz
  refine Met.ofW (cc := cX5_play) (maxL := 3) (ret := (some .int)) (by decide) rfl ?_
  intro p e s m args below meth c s₁ B hml hv
  obtain ⟨rfl, rfl, hP, hK, hD0, hN⟩ := hv
  have hx := B.exec
  have hb := B.bytes
  have hr := B.returns
  have hts := atoms_spec (ws := wsX5_play) B.pre
  have hown : s.vm.findClass RX5 = some m.cls := findClass_of_methodNamed B.named
  have hlocks := B.notSynchronized
  have hD := hD0.self (sz := s.heap.size)
  have hA : ∀ q : Nat, s.heap.size ≤ q → va_A (wM E A G z a t r h) s.heap.size q := fun q h => Or.inr h
  have hS : va_S (va_A (wM E A G z a t r h) s.heap.size) s.heap s.heap [] := va_S.rf
  have hl := lv_entry ([.ref (A 0)]) (n := 3) (Nat.le_of_ble_eq_true rfl)
  rw [lg_entry_eq]
  generalize (lg_sl ([.ref (A 0)]) ++ List.replicate (3 - (lg_sl ([.ref (A 0)])).length) Slot.unset).toArray = ls at hl ⊢
  have hl : lv_has ls 3 [(0, .ref (A 0))] := hl
  have hf111 := hts (.fieldLink RX5 111 "PhaseConverterModel" "length" "I") (List.mem_of_getElem? (i := 1) rfl)
  have hf123 := hts (.fieldLink RX5 123 "PhaseConverterModel" "step" "I") (List.mem_of_getElem? (i := 2) rfl)
  have hf131 := hts (.fieldLink RX5 131 "PhaseConverterModel" "items" "I") (List.mem_of_getElem? (i := 4) rfl)
  have hf19 := hts (.fieldLink RX5 19 "PhaseConverterModel" "read" "[I") (List.mem_of_getElem? (i := 5) rfl)
  have hf26 := hts (.fieldLink RX5 26 "PhaseConverterModel" "thrown" "I") (List.mem_of_getElem? (i := 3) rfl)
  have hiX5 : ∀ w ∈ u_ws RX5 TX5 15, w ∈ wsX5_play := memIn [126, 127, 128, 129, 130, 131, 132, 133, 134, 135, 136, 137, 138, 139, 140] rfl
  refine lv_aload_n hx hb dX5_play_0 rfl (lv_at hl 0 rfl) ?_
  refine gv0i (As := []) (rest := []) ⟨hx, hb, hml, hown, hts⟩ (c_X5_readText l E A G z a t r h L hL hL5) (cwV 0 hts gX5_play_X5_readText rfl rfl rfl (by decide +kernel) ⟨Nat.le_of_ble_eq_true rfl, Nat.le_of_ble_eq_true rfl⟩) (va_recv hK hP (ci := 5) (q0 := 0) rfl rfl) hP hK hD hN hS hA rfl hl.1 rfl (Nat.le_of_ble_eq_true rfl) dX5_play_1 ⟨Nat.le_refl _, Nat.le_refl _⟩ (fun H locs hP hD hS => ?_)
  have hP : va_P E.1 vwCl (wM E A ((rdF t L G r).1) z a t ((rdF t L G r).2.1) h) H := hP
  have hD : va_D _ (wM E A ((rdF t L G r).1) z a t ((rdF t L G r).2.1) h) := hD
  refine lv_aload_n hx hb dX5_play_4 rfl (lv_at hl 0 rfl) ?_
  refine va_get (D := E.1) (ci := 5) (v := .int (((rdF t L G r).1) 3)) (C := RX5) (T := TX5) (N := 15) hx hb hts hiX5 hown hK hP 0 rfl rfl 3 (by decide) hf111 (fun _ h9 => h9) rfl dX5_play_5 ?_
  refine lv_icmp_ne (tgt := 31) hx hb dX5_play_8 (by decide) (fun c_8 => ?_) (fun c_8 => ?_)
  · have hpz : isPr L (rdF t L G r) ((rdF t L G r).1 3) = 0 := by unfold isPr; first | rw [if_neg c_8] | rw [if_pos c_8, if_neg c_16, if_neg c_24]
    refine lv_iconst (v := 0) hx hb dX5_play_31 (by decide) ?_
    refine lv_istore_n (lv' := [(1, .int 0), (0, .ref (A 0))]) hx hb dX5_play_32 rfl hl (by decide) rfl (fun ls hl => ?_)
    refine lv_aload_n hx hb dX5_play_33 rfl (lv_at hl 1 rfl) ?_
    refine lv_iload_n hx hb dX5_play_34 rfl (lv_at hl 0 rfl) ?_
    refine lv_if_eq (tgt := 42) hx hb dX5_play_35 (by decide) (fun c_35 => ?_) (fun c_35 => absurd (by decide) c_35)
    refine lv_iconst (v := 1) hx hb dX5_play_42 (by decide) ?_
    refine va_put (D := E.1) (ci := 5) (v := .int 1) (ty := .int) (C := RX5) (T := TX5) (N := 15) hx hb hts hiX5 tyX5 tyX5_ok nmX5 hown hK hP hD hS 0 rfl rfl 0 (by decide) hf26 (fun _ h9 => h9) rfl (by decide +kernel) rfl rfl (Nat.le_of_ble_eq_true rfl) dX5_play_43 (fun H locs hP hD hS => ?_)
    have hP : va_P E.1 vwCl (wM E A (upd ((rdF t L G r).1) 0 1) z a t ((rdF t L G r).2.1) h) H := hP
    have hD : va_D _ (wM E A (upd ((rdF t L G r).1) 0 1) z a t ((rdF t L G r).2.1) h) := hD
    refine lv_aload_n hx hb dX5_play_46 rfl (lv_at hl 1 rfl) ?_
    refine va_get (D := E.1) (ci := 5) (v := .int 1) (C := RX5) (T := TX5) (N := 15) hx hb hts hiX5 hown hK hP 0 rfl rfl 0 (by decide) hf26 (fun _ h9 => h9) rfl dX5_play_47 ?_
    refine lv_if_le (tgt := 55) hx hb dX5_play_50 (by decide) (fun c_50 => absurd c_50 (by decide)) (fun c_50 => ?_)
    refine lv_iconst (v := 0) hx hb dX5_play_53 (by decide) ?_
    exact greti hx hb hr hlocks hP hD hS (by simp only [plD, if_pos hpz]) (by simp only [plZ, plGG, plRR, if_pos hpz]) dX5_play_54
  · refine lv_aload_n hx hb dX5_play_11 rfl (lv_at hl 0 rfl) ?_
    refine va_get (D := E.1) (ci := 5) (v := .int (((rdF t L G r).1) 8)) (C := RX5) (T := TX5) (N := 15) hx hb hts hiX5 hown hK hP 0 rfl rfl 8 (by decide) hf123 (fun _ h9 => h9) rfl dX5_play_12 ?_
    refine lv_iconst (v := 1) hx hb dX5_play_15 (by decide) ?_
    refine lv_icmp_eq (tgt := 27) hx hb dX5_play_16 (by decide) (fun c_16 => ?_) (fun c_16 => ?_)
    · have hpr : isPr L (rdF t L G r) ((rdF t L G r).1 3) = 1 := by unfold isPr; first | rw [if_pos c_8, if_pos c_16] | rw [if_pos c_8, if_neg c_16, if_pos c_24]
      have hpn : ¬ isPr L (rdF t L G r) ((rdF t L G r).1 3) = 0 := by rw [hpr]; decide
      have hu := rtL_OK (t := t) L 0 (upd (upd G 8 0) 12 0) r (gOK_0 G) (by omega)
      have hg3 : (rdF t L G r).1 3 = nI L := hu.2.1.trans hL
      have hk : gOK L (rdF t L G r).1 := by have h0 := hu.2.2; rw [Nat.zero_add] at h0; exact h0 (c_8.trans hg3)
      have hit : (upd (rdF t L G r).1 0 0) 12 = nI (itOf (upd (rdF t L G r).1 0 0)) := hk.1
      have hi5 : itOf (upd (rdF t L G r).1 0 0) < 50 := by have h2 := hk.2; rw [if_neg (by first | (rw [c_16]; decide) | (rw [c_24]; decide))] at h2; show itOf (rdF t L G r).1 < 50; omega
      have hi6 : itOf (rdF t L G r).1 < 50 := hi5
      have hpg := plG_OK hk.1 hi6
      refine lv_iconst (v := 1) hx hb dX5_play_27 (by decide) ?_
      refine lv_goto (tgt := 32) hx hb dX5_play_28 (by decide) ?_
      refine lv_istore_n (lv' := [(1, .int 1), (0, .ref (A 0))]) hx hb dX5_play_32 rfl hl (by decide) rfl (fun ls hl => ?_)
      refine lv_aload_n hx hb dX5_play_33 rfl (lv_at hl 1 rfl) ?_
      refine lv_iload_n hx hb dX5_play_34 rfl (lv_at hl 0 rfl) ?_
      refine lv_if_eq (tgt := 42) hx hb dX5_play_35 (by decide) (fun c_35 => absurd c_35 (by decide)) (fun c_35 => ?_)
      refine lv_iconst (v := 0) hx hb dX5_play_38 (by decide) ?_
      refine lv_goto (tgt := 43) hx hb dX5_play_39 (by decide) ?_
      refine va_put (D := E.1) (ci := 5) (v := .int 0) (ty := .int) (C := RX5) (T := TX5) (N := 15) hx hb hts hiX5 tyX5 tyX5_ok nmX5 hown hK hP hD hS 0 rfl rfl 0 (by decide) hf26 (fun _ h9 => h9) rfl (by decide +kernel) rfl rfl (Nat.le_of_ble_eq_true rfl) dX5_play_43 (fun H locs hP hD hS => ?_)
      have hP : va_P E.1 vwCl (wM E A (upd ((rdF t L G r).1) 0 0) z a t ((rdF t L G r).2.1) h) H := hP
      have hD : va_D _ (wM E A (upd ((rdF t L G r).1) 0 0) z a t ((rdF t L G r).2.1) h) := hD
      refine lv_aload_n hx hb dX5_play_46 rfl (lv_at hl 1 rfl) ?_
      refine va_get (D := E.1) (ci := 5) (v := .int 0) (C := RX5) (T := TX5) (N := 15) hx hb hts hiX5 hown hK hP 0 rfl rfl 0 (by decide) hf26 (fun _ h9 => h9) rfl dX5_play_47 ?_
      refine lv_if_le (tgt := 55) hx hb dX5_play_50 (by decide) (fun c_50 => ?_) (fun c_50 => absurd (by decide) c_50)
      refine lv_aload_n hx hb dX5_play_55 rfl (lv_at hl 1 rfl) ?_
      refine gv0v (As := []) (rest := []) ⟨hx, hb, hml, hown, hts⟩ (c_X5_endItem l E A (upd ((rdF t L G r).1) 0 0) z a t ((rdF t L G r).2.1) h (itOf (upd (rdF t L G r).1 0 0)) hit hi5) (cwV 0 hts gX5_play_X5_endItem rfl rfl rfl (by decide +kernel) ⟨Nat.le_of_ble_eq_true rfl, Nat.le_of_ble_eq_true rfl⟩) (va_recv hK hP (ci := 5) (q0 := 0) rfl rfl) hP hK hD hN hS hA rfl hl.1 rfl (Nat.le_of_ble_eq_true rfl) dX5_play_56 ⟨Nat.le_refl _, Nat.le_refl _⟩ (fun H locs hP hD hS => ?_)
      have hP : va_P E.1 vwCl (wM E A (plG (rdF t L G r).1) z a t (plR (rdF t L G r).1 (rdF t L G r).2.1) h) H := hP
      have hD : va_D _ (wM E A (plG (rdF t L G r).1) z a t (plR (rdF t L G r).1 (rdF t L G r).2.1) h) := hD
      refine lv_iconst (v := 0) hx hb dX5_play_59 (by decide) ?_
      refine lv_istore_n (lv' := [(2, .int 0), (1, .int 1), (0, .ref (A 0))]) hx hb dX5_play_60 rfl hl (by decide) rfl (fun ls hl => ?_)
      have L_61 : ∀ (n i : Nat) (z1 : Nat → Int32) (G1 : Nat → Int32) (H : Heap) (locs : List Loc) (ls : Array Slot), (i + n = itOf (plG (rdF t L G r).1)) → (zOK z1) → (G1 12 = nI (itOf (plG (rdF t L G r).1))) → (plL (plR (rdF t L G r).1 (rdF t L G r).2.1) n i z1 G1 = plL (plR (rdF t L G r).1 (rdF t L G r).2.1) (itOf (plG (rdF t L G r).1)) 0 z (plG (rdF t L G r).1)) → va_P E.1 vwCl (wM E A G1 z1 a t (plR (rdF t L G r).1 (rdF t L G r).2.1) h) H → va_D (va_A (wM E A G z a t r h) s.heap.size) (wM E A G1 z1 a t (plR (rdF t L G r).1 (rdF t L G r).2.1) h) → va_S (va_A (wM E A G z a t r h) s.heap.size) s.heap H locs → lv_has ls 3 [(2, .int (nI i)), (1, .int 1), (0, .ref (A 0))] → W p l e (gR wsX5_play 7 162) s m ([.ref (A 0)] : List Value).toArray below meth c H locs 0 0 (gMQ below E s (wM E A G z a t r h) (wM E A (plGG t L z G r) (plZ t L z G r) a t (plRR t L G r) h) (some (.int (plD t L z G r))) [.ref (A 0)]) (F0 m 61 ls []) := by
        intro n
        induction n with
        | zero =>
          intro i z1 G1 H locs ls hin h1 h12 hfn hP hD hS hl
          have hpg2 := hpg.2
          have hf : (z1, G1, nI i) = plU z (rdF t L G r) := hfn
          refine lv_iload_n hx hb dX5_play_61 rfl (lv_at hl 0 rfl) ?_
          refine lv_aload_n hx hb dX5_play_62 rfl (lv_at hl 2 rfl) ?_
          refine va_get (D := E.1) (ci := 5) (v := .int (G1 12)) (C := RX5) (T := TX5) (N := 15) hx hb hts hiX5 hown hK hP 0 rfl rfl 12 (by decide) hf131 (fun _ h9 => h9) rfl dX5_play_63 ?_
          refine lv_icmp_ge (tgt := 100) hx hb dX5_play_66 (by decide) (fun c_66 => ?_) (fun c_66 => absurd (by rw [h12]; exact nI_le (by omega) (by omega)) c_66)
          refine lv_aload_n hx hb dX5_play_100 rfl (lv_at hl 2 rfl) ?_
          refine lv_iconst (v := 0) hx hb dX5_play_101 (by decide) ?_
          refine va_put (D := E.1) (ci := 5) (v := .int 0) (ty := .int) (C := RX5) (T := TX5) (N := 15) hx hb hts hiX5 tyX5 tyX5_ok nmX5 hown hK hP hD hS 0 rfl rfl 0 (by decide) hf26 (fun _ h9 => h9) rfl (by decide +kernel) rfl rfl (Nat.le_of_ble_eq_true rfl) dX5_play_102 (fun H locs hP hD hS => ?_)
          have hP : va_P E.1 vwCl (wM E A (upd G1 0 0) z1 a t (plR (rdF t L G r).1 (rdF t L G r).2.1) h) H := hP
          have hD : va_D _ (wM E A (upd G1 0 0) z1 a t (plR (rdF t L G r).1 (rdF t L G r).2.1) h) := hD
          refine lv_aload_n hx hb dX5_play_105 rfl (lv_at hl 2 rfl) ?_
          refine lv_iconst (v := 0) hx hb dX5_play_106 (by decide) ?_
          refine va_put (D := E.1) (ci := 5) (v := .int 0) (ty := .int) (C := RX5) (T := TX5) (N := 15) hx hb hts hiX5 tyX5 tyX5_ok nmX5 hown hK hP hD hS 0 rfl rfl 3 (by decide) hf111 (fun _ h9 => h9) rfl (by decide +kernel) rfl rfl (Nat.le_of_ble_eq_true rfl) dX5_play_107 (fun H locs hP hD hS => ?_)
          have hP : va_P E.1 vwCl (wM E A (upd (upd G1 0 0) 3 0) z1 a t (plR (rdF t L G r).1 (rdF t L G r).2.1) h) H := hP
          have hD : va_D _ (wM E A (upd (upd G1 0 0) 3 0) z1 a t (plR (rdF t L G r).1 (rdF t L G r).2.1) h) := hD
          refine lv_iload_n hx hb dX5_play_110 rfl (lv_at hl 0 rfl) ?_
          exact greti hx hb hr hlocks hP hD hS (by simp only [plD, if_neg hpn, ← hf]) (by simp only [plZ, plGG, plRR, if_neg hpn, ← hf]) dX5_play_111
        | succ n ih =>
          intro i z1 G1 H locs ls hin h1 h12 hfn hP hD hS hl
          have hpg2 := hpg.2
          refine lv_iload_n hx hb dX5_play_61 rfl (lv_at hl 0 rfl) ?_
          refine lv_aload_n hx hb dX5_play_62 rfl (lv_at hl 2 rfl) ?_
          refine va_get (D := E.1) (ci := 5) (v := .int (G1 12)) (C := RX5) (T := TX5) (N := 15) hx hb hts hiX5 hown hK hP 0 rfl rfl 12 (by decide) hf131 (fun _ h9 => h9) rfl dX5_play_63 ?_
          refine lv_icmp_ge (tgt := 100) hx hb dX5_play_66 (by decide) (fun c_66 => absurd c_66 (by rw [h12]; exact nI_ge (by omega) (by omega))) (fun c_66 => ?_)
          refine lv_aload_n hx hb dX5_play_69 rfl (lv_at hl 2 rfl) ?_
          refine lv_aload_n hx hb dX5_play_70 rfl (lv_at hl 2 rfl) ?_
          refine va_get (D := E.1) (ci := 5) (v := .ref (A 4)) (C := RX5) (T := TX5) (N := 15) hx hb hts hiX5 hown hK hP 0 rfl rfl 13 (by decide) hf19 (fun _ h9 => h9) rfl dX5_play_71 ?_
          refine lv_iconst (v := 2) hx hb dX5_play_74 (by decide) ?_
          refine lv_iload_n hx hb dX5_play_75 rfl (lv_at hl 0 rfl) ?_
          refine lv_imul hx hb dX5_play_76 ?_
          refine gald (x := (plR (rdF t L G r).1 (rdF t L G r).2.1) (2 * i)) hx hb hK hP 4 rfl (2 * i) (ix2 rfl) (by omega) (by decide) rfl dX5_play_77 ?_
          refine lv_aload_n hx hb dX5_play_78 rfl (lv_at hl 2 rfl) ?_
          refine va_get (D := E.1) (ci := 5) (v := .ref (A 4)) (C := RX5) (T := TX5) (N := 15) hx hb hts hiX5 hown hK hP 0 rfl rfl 13 (by decide) hf19 (fun _ h9 => h9) rfl dX5_play_79 ?_
          refine lv_iconst (v := 2) hx hb dX5_play_82 (by decide) ?_
          refine lv_iload_n hx hb dX5_play_83 rfl (lv_at hl 0 rfl) ?_
          refine lv_imul hx hb dX5_play_84 ?_
          refine lv_iconst (v := 1) hx hb dX5_play_85 (by decide) ?_
          refine lv_iadd hx hb dX5_play_86 ?_
          refine gald (x := (plR (rdF t L G r).1 (rdF t L G r).2.1) (2 * i + 1)) hx hb hK hP 4 rfl (2 * i + 1) (ix21 rfl) (by omega) (by decide) rfl dX5_play_87 ?_
          refine gv0i (As := [.int ((plR (rdF t L G r).1 (rdF t L G r).2.1) (2 * i)), .int ((plR (rdF t L G r).1 (rdF t L G r).2.1) (2 * i + 1))]) (rest := []) ⟨hx, hb, hml, hown, hts⟩ (c_X5_does l E A G1 z1 a t (plR (rdF t L G r).1 (rdF t L G r).2.1) h ((plR (rdF t L G r).1 (rdF t L G r).2.1) (2 * i)) ((plR (rdF t L G r).1 (rdF t L G r).2.1) (2 * i + 1)) h1) (cwV 2 hts gX5_play_X5_does rfl rfl rfl (by decide +kernel) ⟨Nat.le_of_ble_eq_true rfl, Nat.le_of_ble_eq_true rfl⟩) (va_recv hK hP (ci := 5) (q0 := 0) rfl rfl) hP hK hD hN hS hA rfl hl.1 rfl (Nat.le_of_ble_eq_true rfl) dX5_play_88 ⟨Nat.le_refl _, Nat.le_refl _⟩ (fun H locs hP hD hS => ?_)
          have hP : va_P E.1 vwCl (wM E A ((doesF ((plR (rdF t L G r).1 (rdF t L G r).2.1) (2 * i)) ((plR (rdF t L G r).1 (rdF t L G r).2.1) (2 * i + 1)) z1 G1).2) ((doesF ((plR (rdF t L G r).1 (rdF t L G r).2.1) (2 * i)) ((plR (rdF t L G r).1 (rdF t L G r).2.1) (2 * i + 1)) z1 G1).1) a t (plR (rdF t L G r).1 (rdF t L G r).2.1) h) H := hP
          have hD : va_D _ (wM E A ((doesF ((plR (rdF t L G r).1 (rdF t L G r).2.1) (2 * i)) ((plR (rdF t L G r).1 (rdF t L G r).2.1) (2 * i + 1)) z1 G1).2) ((doesF ((plR (rdF t L G r).1 (rdF t L G r).2.1) (2 * i)) ((plR (rdF t L G r).1 (rdF t L G r).2.1) (2 * i + 1)) z1 G1).1) a t (plR (rdF t L G r).1 (rdF t L G r).2.1) h) := hD
          refine lv_if_eq (tgt := 100) hx hb dX5_play_91 (by decide) (fun c_91 => ?_) (fun c_91 => ?_)
          · refine lv_aload_n hx hb dX5_play_100 rfl (lv_at hl 2 rfl) ?_
            refine lv_iconst (v := 0) hx hb dX5_play_101 (by decide) ?_
            refine va_put (D := E.1) (ci := 5) (v := .int 0) (ty := .int) (C := RX5) (T := TX5) (N := 15) hx hb hts hiX5 tyX5 tyX5_ok nmX5 hown hK hP hD hS 0 rfl rfl 0 (by decide) hf26 (fun _ h9 => h9) rfl (by decide +kernel) rfl rfl (Nat.le_of_ble_eq_true rfl) dX5_play_102 (fun H locs hP hD hS => ?_)
            have hP : va_P E.1 vwCl (wM E A (upd ((doesF ((plR (rdF t L G r).1 (rdF t L G r).2.1) (2 * i)) ((plR (rdF t L G r).1 (rdF t L G r).2.1) (2 * i + 1)) z1 G1).2) 0 0) ((doesF ((plR (rdF t L G r).1 (rdF t L G r).2.1) (2 * i)) ((plR (rdF t L G r).1 (rdF t L G r).2.1) (2 * i + 1)) z1 G1).1) a t (plR (rdF t L G r).1 (rdF t L G r).2.1) h) H := hP
            have hD : va_D _ (wM E A (upd ((doesF ((plR (rdF t L G r).1 (rdF t L G r).2.1) (2 * i)) ((plR (rdF t L G r).1 (rdF t L G r).2.1) (2 * i + 1)) z1 G1).2) 0 0) ((doesF ((plR (rdF t L G r).1 (rdF t L G r).2.1) (2 * i)) ((plR (rdF t L G r).1 (rdF t L G r).2.1) (2 * i + 1)) z1 G1).1) a t (plR (rdF t L G r).1 (rdF t L G r).2.1) h) := hD
            refine lv_aload_n hx hb dX5_play_105 rfl (lv_at hl 2 rfl) ?_
            refine lv_iconst (v := 0) hx hb dX5_play_106 (by decide) ?_
            refine va_put (D := E.1) (ci := 5) (v := .int 0) (ty := .int) (C := RX5) (T := TX5) (N := 15) hx hb hts hiX5 tyX5 tyX5_ok nmX5 hown hK hP hD hS 0 rfl rfl 3 (by decide) hf111 (fun _ h9 => h9) rfl (by decide +kernel) rfl rfl (Nat.le_of_ble_eq_true rfl) dX5_play_107 (fun H locs hP hD hS => ?_)
            have hP : va_P E.1 vwCl (wM E A (upd (upd ((doesF ((plR (rdF t L G r).1 (rdF t L G r).2.1) (2 * i)) ((plR (rdF t L G r).1 (rdF t L G r).2.1) (2 * i + 1)) z1 G1).2) 0 0) 3 0) ((doesF ((plR (rdF t L G r).1 (rdF t L G r).2.1) (2 * i)) ((plR (rdF t L G r).1 (rdF t L G r).2.1) (2 * i + 1)) z1 G1).1) a t (plR (rdF t L G r).1 (rdF t L G r).2.1) h) H := hP
            have hD : va_D _ (wM E A (upd (upd ((doesF ((plR (rdF t L G r).1 (rdF t L G r).2.1) (2 * i)) ((plR (rdF t L G r).1 (rdF t L G r).2.1) (2 * i + 1)) z1 G1).2) 0 0) 3 0) ((doesF ((plR (rdF t L G r).1 (rdF t L G r).2.1) (2 * i)) ((plR (rdF t L G r).1 (rdF t L G r).2.1) (2 * i + 1)) z1 G1).1) a t (plR (rdF t L G r).1 (rdF t L G r).2.1) h) := hD
            refine lv_iload_n hx hb dX5_play_110 rfl (lv_at hl 0 rfl) ?_
            exact greti hx hb hr hlocks hP hD hS (by simp only [plD, if_neg hpn, ← ((if_pos c_91).symm.trans hfn : (_, _, _) = plU z (rdF t L G r))]) (by simp only [plZ, plGG, plRR, if_neg hpn, ← ((if_pos c_91).symm.trans hfn : (_, _, _) = plU z (rdF t L G r))]) dX5_play_111
          · refine lv_iinc (v := nI (i + 1)) (lv' := [(2, .int (nI (i + 1))), (1, .int 1), (0, .ref (A 0))]) hx hb dX5_play_94 hl (k := 0) rfl (nI_1 _) (by decide) rfl (fun ls hl => ?_)
            refine lv_goto (tgt := 61) hx hb dX5_play_97 (by decide) ?_
            exact ih (i + 1) ((doesF ((plR (rdF t L G r).1 (rdF t L G r).2.1) (2 * i)) ((plR (rdF t L G r).1 (rdF t L G r).2.1) (2 * i + 1)) z1 G1).1) ((doesF ((plR (rdF t L G r).1 (rdF t L G r).2.1) (2 * i)) ((plR (rdF t L G r).1 (rdF t L G r).2.1) (2 * i + 1)) z1 G1).2) H locs ls (by omega) (doesF_OK h1) ((doesF_G (by omega) (by omega) (by omega) (by omega)).trans h12) ((if_neg c_91).symm.trans hfn) hP hD hS (lv_sub hl [0, 1, 2] rfl)
      exact L_61 (itOf (plG (rdF t L G r).1)) (0) z (plG (rdF t L G r).1) H locs ls (by omega) (hz) (hpg.1) rfl hP hD hS (lv_sub hl [0, 1, 2] rfl)
    · refine lv_aload_n hx hb dX5_play_19 rfl (lv_at hl 0 rfl) ?_
      refine va_get (D := E.1) (ci := 5) (v := .int (((rdF t L G r).1) 8)) (C := RX5) (T := TX5) (N := 15) hx hb hts hiX5 hown hK hP 0 rfl rfl 8 (by decide) hf123 (fun _ h9 => h9) rfl dX5_play_20 ?_
      refine lv_iconst (v := 3) hx hb dX5_play_23 (by decide) ?_
      refine lv_icmp_ne (tgt := 31) hx hb dX5_play_24 (by decide) (fun c_24 => ?_) (fun c_24 => ?_)
      · have hpz : isPr L (rdF t L G r) ((rdF t L G r).1 3) = 0 := by unfold isPr; first | rw [if_neg c_8] | rw [if_pos c_8, if_neg c_16, if_neg c_24]
        refine lv_iconst (v := 0) hx hb dX5_play_31 (by decide) ?_
        refine lv_istore_n (lv' := [(1, .int 0), (0, .ref (A 0))]) hx hb dX5_play_32 rfl hl (by decide) rfl (fun ls hl => ?_)
        refine lv_aload_n hx hb dX5_play_33 rfl (lv_at hl 1 rfl) ?_
        refine lv_iload_n hx hb dX5_play_34 rfl (lv_at hl 0 rfl) ?_
        refine lv_if_eq (tgt := 42) hx hb dX5_play_35 (by decide) (fun c_35 => ?_) (fun c_35 => absurd (by decide) c_35)
        refine lv_iconst (v := 1) hx hb dX5_play_42 (by decide) ?_
        refine va_put (D := E.1) (ci := 5) (v := .int 1) (ty := .int) (C := RX5) (T := TX5) (N := 15) hx hb hts hiX5 tyX5 tyX5_ok nmX5 hown hK hP hD hS 0 rfl rfl 0 (by decide) hf26 (fun _ h9 => h9) rfl (by decide +kernel) rfl rfl (Nat.le_of_ble_eq_true rfl) dX5_play_43 (fun H locs hP hD hS => ?_)
        have hP : va_P E.1 vwCl (wM E A (upd ((rdF t L G r).1) 0 1) z a t ((rdF t L G r).2.1) h) H := hP
        have hD : va_D _ (wM E A (upd ((rdF t L G r).1) 0 1) z a t ((rdF t L G r).2.1) h) := hD
        refine lv_aload_n hx hb dX5_play_46 rfl (lv_at hl 1 rfl) ?_
        refine va_get (D := E.1) (ci := 5) (v := .int 1) (C := RX5) (T := TX5) (N := 15) hx hb hts hiX5 hown hK hP 0 rfl rfl 0 (by decide) hf26 (fun _ h9 => h9) rfl dX5_play_47 ?_
        refine lv_if_le (tgt := 55) hx hb dX5_play_50 (by decide) (fun c_50 => absurd c_50 (by decide)) (fun c_50 => ?_)
        refine lv_iconst (v := 0) hx hb dX5_play_53 (by decide) ?_
        exact greti hx hb hr hlocks hP hD hS (by simp only [plD, if_pos hpz]) (by simp only [plZ, plGG, plRR, if_pos hpz]) dX5_play_54
      · have hpr : isPr L (rdF t L G r) ((rdF t L G r).1 3) = 1 := by unfold isPr; first | rw [if_pos c_8, if_pos c_16] | rw [if_pos c_8, if_neg c_16, if_pos c_24]
        have hpn : ¬ isPr L (rdF t L G r) ((rdF t L G r).1 3) = 0 := by rw [hpr]; decide
        have hu := rtL_OK (t := t) L 0 (upd (upd G 8 0) 12 0) r (gOK_0 G) (by omega)
        have hg3 : (rdF t L G r).1 3 = nI L := hu.2.1.trans hL
        have hk : gOK L (rdF t L G r).1 := by have h0 := hu.2.2; rw [Nat.zero_add] at h0; exact h0 (c_8.trans hg3)
        have hit : (upd (rdF t L G r).1 0 0) 12 = nI (itOf (upd (rdF t L G r).1 0 0)) := hk.1
        have hi5 : itOf (upd (rdF t L G r).1 0 0) < 50 := by have h2 := hk.2; rw [if_neg (by first | (rw [c_16]; decide) | (rw [c_24]; decide))] at h2; show itOf (rdF t L G r).1 < 50; omega
        have hi6 : itOf (rdF t L G r).1 < 50 := hi5
        have hpg := plG_OK hk.1 hi6
        refine lv_iconst (v := 1) hx hb dX5_play_27 (by decide) ?_
        refine lv_goto (tgt := 32) hx hb dX5_play_28 (by decide) ?_
        refine lv_istore_n (lv' := [(1, .int 1), (0, .ref (A 0))]) hx hb dX5_play_32 rfl hl (by decide) rfl (fun ls hl => ?_)
        refine lv_aload_n hx hb dX5_play_33 rfl (lv_at hl 1 rfl) ?_
        refine lv_iload_n hx hb dX5_play_34 rfl (lv_at hl 0 rfl) ?_
        refine lv_if_eq (tgt := 42) hx hb dX5_play_35 (by decide) (fun c_35 => absurd c_35 (by decide)) (fun c_35 => ?_)
        refine lv_iconst (v := 0) hx hb dX5_play_38 (by decide) ?_
        refine lv_goto (tgt := 43) hx hb dX5_play_39 (by decide) ?_
        refine va_put (D := E.1) (ci := 5) (v := .int 0) (ty := .int) (C := RX5) (T := TX5) (N := 15) hx hb hts hiX5 tyX5 tyX5_ok nmX5 hown hK hP hD hS 0 rfl rfl 0 (by decide) hf26 (fun _ h9 => h9) rfl (by decide +kernel) rfl rfl (Nat.le_of_ble_eq_true rfl) dX5_play_43 (fun H locs hP hD hS => ?_)
        have hP : va_P E.1 vwCl (wM E A (upd ((rdF t L G r).1) 0 0) z a t ((rdF t L G r).2.1) h) H := hP
        have hD : va_D _ (wM E A (upd ((rdF t L G r).1) 0 0) z a t ((rdF t L G r).2.1) h) := hD
        refine lv_aload_n hx hb dX5_play_46 rfl (lv_at hl 1 rfl) ?_
        refine va_get (D := E.1) (ci := 5) (v := .int 0) (C := RX5) (T := TX5) (N := 15) hx hb hts hiX5 hown hK hP 0 rfl rfl 0 (by decide) hf26 (fun _ h9 => h9) rfl dX5_play_47 ?_
        refine lv_if_le (tgt := 55) hx hb dX5_play_50 (by decide) (fun c_50 => ?_) (fun c_50 => absurd (by decide) c_50)
        refine lv_aload_n hx hb dX5_play_55 rfl (lv_at hl 1 rfl) ?_
        refine gv0v (As := []) (rest := []) ⟨hx, hb, hml, hown, hts⟩ (c_X5_endItem l E A (upd ((rdF t L G r).1) 0 0) z a t ((rdF t L G r).2.1) h (itOf (upd (rdF t L G r).1 0 0)) hit hi5) (cwV 0 hts gX5_play_X5_endItem rfl rfl rfl (by decide +kernel) ⟨Nat.le_of_ble_eq_true rfl, Nat.le_of_ble_eq_true rfl⟩) (va_recv hK hP (ci := 5) (q0 := 0) rfl rfl) hP hK hD hN hS hA rfl hl.1 rfl (Nat.le_of_ble_eq_true rfl) dX5_play_56 ⟨Nat.le_refl _, Nat.le_refl _⟩ (fun H locs hP hD hS => ?_)
        have hP : va_P E.1 vwCl (wM E A (plG (rdF t L G r).1) z a t (plR (rdF t L G r).1 (rdF t L G r).2.1) h) H := hP
        have hD : va_D _ (wM E A (plG (rdF t L G r).1) z a t (plR (rdF t L G r).1 (rdF t L G r).2.1) h) := hD
        refine lv_iconst (v := 0) hx hb dX5_play_59 (by decide) ?_
        refine lv_istore_n (lv' := [(2, .int 0), (1, .int 1), (0, .ref (A 0))]) hx hb dX5_play_60 rfl hl (by decide) rfl (fun ls hl => ?_)
        have L_61 : ∀ (n i : Nat) (z1 : Nat → Int32) (G1 : Nat → Int32) (H : Heap) (locs : List Loc) (ls : Array Slot), (i + n = itOf (plG (rdF t L G r).1)) → (zOK z1) → (G1 12 = nI (itOf (plG (rdF t L G r).1))) → (plL (plR (rdF t L G r).1 (rdF t L G r).2.1) n i z1 G1 = plL (plR (rdF t L G r).1 (rdF t L G r).2.1) (itOf (plG (rdF t L G r).1)) 0 z (plG (rdF t L G r).1)) → va_P E.1 vwCl (wM E A G1 z1 a t (plR (rdF t L G r).1 (rdF t L G r).2.1) h) H → va_D (va_A (wM E A G z a t r h) s.heap.size) (wM E A G1 z1 a t (plR (rdF t L G r).1 (rdF t L G r).2.1) h) → va_S (va_A (wM E A G z a t r h) s.heap.size) s.heap H locs → lv_has ls 3 [(2, .int (nI i)), (1, .int 1), (0, .ref (A 0))] → W p l e (gR wsX5_play 7 162) s m ([.ref (A 0)] : List Value).toArray below meth c H locs 0 0 (gMQ below E s (wM E A G z a t r h) (wM E A (plGG t L z G r) (plZ t L z G r) a t (plRR t L G r) h) (some (.int (plD t L z G r))) [.ref (A 0)]) (F0 m 61 ls []) := by
          intro n
          induction n with
          | zero =>
            intro i z1 G1 H locs ls hin h1 h12 hfn hP hD hS hl
            have hpg2 := hpg.2
            have hf : (z1, G1, nI i) = plU z (rdF t L G r) := hfn
            refine lv_iload_n hx hb dX5_play_61 rfl (lv_at hl 0 rfl) ?_
            refine lv_aload_n hx hb dX5_play_62 rfl (lv_at hl 2 rfl) ?_
            refine va_get (D := E.1) (ci := 5) (v := .int (G1 12)) (C := RX5) (T := TX5) (N := 15) hx hb hts hiX5 hown hK hP 0 rfl rfl 12 (by decide) hf131 (fun _ h9 => h9) rfl dX5_play_63 ?_
            refine lv_icmp_ge (tgt := 100) hx hb dX5_play_66 (by decide) (fun c_66 => ?_) (fun c_66 => absurd (by rw [h12]; exact nI_le (by omega) (by omega)) c_66)
            refine lv_aload_n hx hb dX5_play_100 rfl (lv_at hl 2 rfl) ?_
            refine lv_iconst (v := 0) hx hb dX5_play_101 (by decide) ?_
            refine va_put (D := E.1) (ci := 5) (v := .int 0) (ty := .int) (C := RX5) (T := TX5) (N := 15) hx hb hts hiX5 tyX5 tyX5_ok nmX5 hown hK hP hD hS 0 rfl rfl 0 (by decide) hf26 (fun _ h9 => h9) rfl (by decide +kernel) rfl rfl (Nat.le_of_ble_eq_true rfl) dX5_play_102 (fun H locs hP hD hS => ?_)
            have hP : va_P E.1 vwCl (wM E A (upd G1 0 0) z1 a t (plR (rdF t L G r).1 (rdF t L G r).2.1) h) H := hP
            have hD : va_D _ (wM E A (upd G1 0 0) z1 a t (plR (rdF t L G r).1 (rdF t L G r).2.1) h) := hD
            refine lv_aload_n hx hb dX5_play_105 rfl (lv_at hl 2 rfl) ?_
            refine lv_iconst (v := 0) hx hb dX5_play_106 (by decide) ?_
            refine va_put (D := E.1) (ci := 5) (v := .int 0) (ty := .int) (C := RX5) (T := TX5) (N := 15) hx hb hts hiX5 tyX5 tyX5_ok nmX5 hown hK hP hD hS 0 rfl rfl 3 (by decide) hf111 (fun _ h9 => h9) rfl (by decide +kernel) rfl rfl (Nat.le_of_ble_eq_true rfl) dX5_play_107 (fun H locs hP hD hS => ?_)
            have hP : va_P E.1 vwCl (wM E A (upd (upd G1 0 0) 3 0) z1 a t (plR (rdF t L G r).1 (rdF t L G r).2.1) h) H := hP
            have hD : va_D _ (wM E A (upd (upd G1 0 0) 3 0) z1 a t (plR (rdF t L G r).1 (rdF t L G r).2.1) h) := hD
            refine lv_iload_n hx hb dX5_play_110 rfl (lv_at hl 0 rfl) ?_
            exact greti hx hb hr hlocks hP hD hS (by simp only [plD, if_neg hpn, ← hf]) (by simp only [plZ, plGG, plRR, if_neg hpn, ← hf]) dX5_play_111
          | succ n ih =>
            intro i z1 G1 H locs ls hin h1 h12 hfn hP hD hS hl
            have hpg2 := hpg.2
            refine lv_iload_n hx hb dX5_play_61 rfl (lv_at hl 0 rfl) ?_
            refine lv_aload_n hx hb dX5_play_62 rfl (lv_at hl 2 rfl) ?_
            refine va_get (D := E.1) (ci := 5) (v := .int (G1 12)) (C := RX5) (T := TX5) (N := 15) hx hb hts hiX5 hown hK hP 0 rfl rfl 12 (by decide) hf131 (fun _ h9 => h9) rfl dX5_play_63 ?_
            refine lv_icmp_ge (tgt := 100) hx hb dX5_play_66 (by decide) (fun c_66 => absurd c_66 (by rw [h12]; exact nI_ge (by omega) (by omega))) (fun c_66 => ?_)
            refine lv_aload_n hx hb dX5_play_69 rfl (lv_at hl 2 rfl) ?_
            refine lv_aload_n hx hb dX5_play_70 rfl (lv_at hl 2 rfl) ?_
            refine va_get (D := E.1) (ci := 5) (v := .ref (A 4)) (C := RX5) (T := TX5) (N := 15) hx hb hts hiX5 hown hK hP 0 rfl rfl 13 (by decide) hf19 (fun _ h9 => h9) rfl dX5_play_71 ?_
            refine lv_iconst (v := 2) hx hb dX5_play_74 (by decide) ?_
            refine lv_iload_n hx hb dX5_play_75 rfl (lv_at hl 0 rfl) ?_
            refine lv_imul hx hb dX5_play_76 ?_
            refine gald (x := (plR (rdF t L G r).1 (rdF t L G r).2.1) (2 * i)) hx hb hK hP 4 rfl (2 * i) (ix2 rfl) (by omega) (by decide) rfl dX5_play_77 ?_
            refine lv_aload_n hx hb dX5_play_78 rfl (lv_at hl 2 rfl) ?_
            refine va_get (D := E.1) (ci := 5) (v := .ref (A 4)) (C := RX5) (T := TX5) (N := 15) hx hb hts hiX5 hown hK hP 0 rfl rfl 13 (by decide) hf19 (fun _ h9 => h9) rfl dX5_play_79 ?_
            refine lv_iconst (v := 2) hx hb dX5_play_82 (by decide) ?_
            refine lv_iload_n hx hb dX5_play_83 rfl (lv_at hl 0 rfl) ?_
            refine lv_imul hx hb dX5_play_84 ?_
            refine lv_iconst (v := 1) hx hb dX5_play_85 (by decide) ?_
            refine lv_iadd hx hb dX5_play_86 ?_
            refine gald (x := (plR (rdF t L G r).1 (rdF t L G r).2.1) (2 * i + 1)) hx hb hK hP 4 rfl (2 * i + 1) (ix21 rfl) (by omega) (by decide) rfl dX5_play_87 ?_
            refine gv0i (As := [.int ((plR (rdF t L G r).1 (rdF t L G r).2.1) (2 * i)), .int ((plR (rdF t L G r).1 (rdF t L G r).2.1) (2 * i + 1))]) (rest := []) ⟨hx, hb, hml, hown, hts⟩ (c_X5_does l E A G1 z1 a t (plR (rdF t L G r).1 (rdF t L G r).2.1) h ((plR (rdF t L G r).1 (rdF t L G r).2.1) (2 * i)) ((plR (rdF t L G r).1 (rdF t L G r).2.1) (2 * i + 1)) h1) (cwV 2 hts gX5_play_X5_does rfl rfl rfl (by decide +kernel) ⟨Nat.le_of_ble_eq_true rfl, Nat.le_of_ble_eq_true rfl⟩) (va_recv hK hP (ci := 5) (q0 := 0) rfl rfl) hP hK hD hN hS hA rfl hl.1 rfl (Nat.le_of_ble_eq_true rfl) dX5_play_88 ⟨Nat.le_refl _, Nat.le_refl _⟩ (fun H locs hP hD hS => ?_)
            have hP : va_P E.1 vwCl (wM E A ((doesF ((plR (rdF t L G r).1 (rdF t L G r).2.1) (2 * i)) ((plR (rdF t L G r).1 (rdF t L G r).2.1) (2 * i + 1)) z1 G1).2) ((doesF ((plR (rdF t L G r).1 (rdF t L G r).2.1) (2 * i)) ((plR (rdF t L G r).1 (rdF t L G r).2.1) (2 * i + 1)) z1 G1).1) a t (plR (rdF t L G r).1 (rdF t L G r).2.1) h) H := hP
            have hD : va_D _ (wM E A ((doesF ((plR (rdF t L G r).1 (rdF t L G r).2.1) (2 * i)) ((plR (rdF t L G r).1 (rdF t L G r).2.1) (2 * i + 1)) z1 G1).2) ((doesF ((plR (rdF t L G r).1 (rdF t L G r).2.1) (2 * i)) ((plR (rdF t L G r).1 (rdF t L G r).2.1) (2 * i + 1)) z1 G1).1) a t (plR (rdF t L G r).1 (rdF t L G r).2.1) h) := hD
            refine lv_if_eq (tgt := 100) hx hb dX5_play_91 (by decide) (fun c_91 => ?_) (fun c_91 => ?_)
            · refine lv_aload_n hx hb dX5_play_100 rfl (lv_at hl 2 rfl) ?_
              refine lv_iconst (v := 0) hx hb dX5_play_101 (by decide) ?_
              refine va_put (D := E.1) (ci := 5) (v := .int 0) (ty := .int) (C := RX5) (T := TX5) (N := 15) hx hb hts hiX5 tyX5 tyX5_ok nmX5 hown hK hP hD hS 0 rfl rfl 0 (by decide) hf26 (fun _ h9 => h9) rfl (by decide +kernel) rfl rfl (Nat.le_of_ble_eq_true rfl) dX5_play_102 (fun H locs hP hD hS => ?_)
              have hP : va_P E.1 vwCl (wM E A (upd ((doesF ((plR (rdF t L G r).1 (rdF t L G r).2.1) (2 * i)) ((plR (rdF t L G r).1 (rdF t L G r).2.1) (2 * i + 1)) z1 G1).2) 0 0) ((doesF ((plR (rdF t L G r).1 (rdF t L G r).2.1) (2 * i)) ((plR (rdF t L G r).1 (rdF t L G r).2.1) (2 * i + 1)) z1 G1).1) a t (plR (rdF t L G r).1 (rdF t L G r).2.1) h) H := hP
              have hD : va_D _ (wM E A (upd ((doesF ((plR (rdF t L G r).1 (rdF t L G r).2.1) (2 * i)) ((plR (rdF t L G r).1 (rdF t L G r).2.1) (2 * i + 1)) z1 G1).2) 0 0) ((doesF ((plR (rdF t L G r).1 (rdF t L G r).2.1) (2 * i)) ((plR (rdF t L G r).1 (rdF t L G r).2.1) (2 * i + 1)) z1 G1).1) a t (plR (rdF t L G r).1 (rdF t L G r).2.1) h) := hD
              refine lv_aload_n hx hb dX5_play_105 rfl (lv_at hl 2 rfl) ?_
              refine lv_iconst (v := 0) hx hb dX5_play_106 (by decide) ?_
              refine va_put (D := E.1) (ci := 5) (v := .int 0) (ty := .int) (C := RX5) (T := TX5) (N := 15) hx hb hts hiX5 tyX5 tyX5_ok nmX5 hown hK hP hD hS 0 rfl rfl 3 (by decide) hf111 (fun _ h9 => h9) rfl (by decide +kernel) rfl rfl (Nat.le_of_ble_eq_true rfl) dX5_play_107 (fun H locs hP hD hS => ?_)
              have hP : va_P E.1 vwCl (wM E A (upd (upd ((doesF ((plR (rdF t L G r).1 (rdF t L G r).2.1) (2 * i)) ((plR (rdF t L G r).1 (rdF t L G r).2.1) (2 * i + 1)) z1 G1).2) 0 0) 3 0) ((doesF ((plR (rdF t L G r).1 (rdF t L G r).2.1) (2 * i)) ((plR (rdF t L G r).1 (rdF t L G r).2.1) (2 * i + 1)) z1 G1).1) a t (plR (rdF t L G r).1 (rdF t L G r).2.1) h) H := hP
              have hD : va_D _ (wM E A (upd (upd ((doesF ((plR (rdF t L G r).1 (rdF t L G r).2.1) (2 * i)) ((plR (rdF t L G r).1 (rdF t L G r).2.1) (2 * i + 1)) z1 G1).2) 0 0) 3 0) ((doesF ((plR (rdF t L G r).1 (rdF t L G r).2.1) (2 * i)) ((plR (rdF t L G r).1 (rdF t L G r).2.1) (2 * i + 1)) z1 G1).1) a t (plR (rdF t L G r).1 (rdF t L G r).2.1) h) := hD
              refine lv_iload_n hx hb dX5_play_110 rfl (lv_at hl 0 rfl) ?_
              exact greti hx hb hr hlocks hP hD hS (by simp only [plD, if_neg hpn, ← ((if_pos c_91).symm.trans hfn : (_, _, _) = plU z (rdF t L G r))]) (by simp only [plZ, plGG, plRR, if_neg hpn, ← ((if_pos c_91).symm.trans hfn : (_, _, _) = plU z (rdF t L G r))]) dX5_play_111
            · refine lv_iinc (v := nI (i + 1)) (lv' := [(2, .int (nI (i + 1))), (1, .int 1), (0, .ref (A 0))]) hx hb dX5_play_94 hl (k := 0) rfl (nI_1 _) (by decide) rfl (fun ls hl => ?_)
              refine lv_goto (tgt := 61) hx hb dX5_play_97 (by decide) ?_
              exact ih (i + 1) ((doesF ((plR (rdF t L G r).1 (rdF t L G r).2.1) (2 * i)) ((plR (rdF t L G r).1 (rdF t L G r).2.1) (2 * i + 1)) z1 G1).1) ((doesF ((plR (rdF t L G r).1 (rdF t L G r).2.1) (2 * i)) ((plR (rdF t L G r).1 (rdF t L G r).2.1) (2 * i + 1)) z1 G1).2) H locs ls (by omega) (doesF_OK h1) ((doesF_G (by omega) (by omega) (by omega) (by omega)).trans h12) ((if_neg c_91).symm.trans hfn) hP hD hS (lv_sub hl [0, 1, 2] rfl)
        exact L_61 (itOf (plG (rdF t L G r).1)) (0) z (plG (rdF t L G r).1) H locs ls (by omega) (hz) (hpg.1) rfl hP hD hS (lv_sub hl [0, 1, 2] rfl)

set_option maxHeartbeats 4000000 in
set_option maxRecDepth 100000 in
theorem c_X5_digest (l : Launch) (E : EE) (A : Nat → Nat) (G z a t r : Nat → Int32) (h : Int64) (K L : Nat) (hz : zOK z) (hK1 : z 31 = nI K) (hK2 : K ≤ 16) (hL : G 3 = nI L) (hL5 : L ≤ 50) : GM l yX5_digest wsX5_digest 6 141 E (wM E A G z a t r h) [.ref (A 0)] (wM E A ((stU 50 z (upd G 0 0)).2.2) z (kpL z 159 0 a) t r (dgZ z t K L (stR 50 z (upd G 0 0)) (unlike z) ((stU 50 z (upd G 0 0)).2.2 3))) (some (.long (dgZ z t K L (stR 50 z (upd G 0 0)) (unlike z) ((stU 50 z (upd G 0 0)).2.2 3)))) := by
  intro sz
  refine Met.ofW (cc := cX5_digest) (maxL := 2) (ret := (some .long)) (by decide) rfl ?_
  intro p e s m args below meth c s₁ B hml hv
  obtain ⟨rfl, rfl, hP, hK, hD0, hN⟩ := hv
  have hx := B.exec
  have hb := B.bytes
  have hr := B.returns
  have hts := atoms_spec (ws := wsX5_digest) B.pre
  have hown : s.vm.findClass RX5 = some m.cls := findClass_of_methodNamed B.named
  have hlocks := B.notSynchronized
  have hD := hD0.self (sz := s.heap.size)
  have hA : ∀ q : Nat, s.heap.size ≤ q → va_A (wM E A G z a t r h) s.heap.size q := fun q h => Or.inr h
  have hS : va_S (va_A (wM E A G z a t r h) s.heap.size) s.heap s.heap [] := va_S.rf
  have hl := lv_entry ([.ref (A 0)]) (n := 2) (Nat.le_of_ble_eq_true rfl)
  rw [lg_entry_eq]
  generalize (lg_sl ([.ref (A 0)]) ++ List.replicate (2 - (lg_sl ([.ref (A 0)])).length) Slot.unset).toArray = ls at hl ⊢
  have hl : lv_has ls 2 [(0, .ref (A 0))] := hl
  have hf111 := hts (.fieldLink RX5 111 "PhaseConverterModel" "length" "I") (List.mem_of_getElem? (i := 5) rfl)
  have hf16 := hts (.fieldLink RX5 16 "PhaseConverterModel" "text" "[I") (List.mem_of_getElem? (i := 6) rfl)
  have hf177 := hts (.fieldLink RX5 177 "PhaseConverterModel" "h" "J") (List.mem_of_getElem? (i := 3) rfl)
  have hf26 := hts (.fieldLink RX5 26 "PhaseConverterModel" "thrown" "I") (List.mem_of_getElem? (i := 1) rfl)
  have hf7 := hts (.fieldLink RX5 7 "PhaseConverterModel" "z" "[I") (List.mem_of_getElem? (i := 4) rfl)
  have hiX5 : ∀ w ∈ u_ws RX5 TX5 15, w ∈ wsX5_digest := memIn [101, 102, 103, 104, 105, 106, 107, 108, 109, 110, 111, 112, 113, 114, 115] rfl
  have hn4 := hz.2.2.1
  have hL2 : (stU 50 z (upd G 0 0)).2.2 3 = nI L := (stU_G (by omega) (by omega) (by omega)).trans hL
  have h7 : 7 * z 15 = nI (7 * nOf z) := by rw [hz.1, show (7 : Int32) = nI 7 from rfl, pk_mul]
  have h6 : 6 * z 31 = nI (6 * K) := by rw [hK1, show (6 : Int32) = nI 6 from rfl, pk_mul]
  refine lv_aload_n hx hb dX5_digest_0 rfl (lv_at hl 0 rfl) ?_
  refine lv_iconst (v := 0) hx hb dX5_digest_1 (by decide) ?_
  refine va_put (D := E.1) (ci := 5) (v := .int 0) (ty := .int) (C := RX5) (T := TX5) (N := 15) hx hb hts hiX5 tyX5 tyX5_ok nmX5 hown hK hP hD hS 0 rfl rfl 0 (by decide) hf26 (fun _ h9 => h9) rfl (by decide +kernel) rfl rfl (Nat.le_of_ble_eq_true rfl) dX5_digest_2 (fun H locs hP hD hS => ?_)
  have hP : va_P E.1 vwCl (wM E A (upd G 0 0) z a t r h) H := hP
  have hD : va_D _ (wM E A (upd G 0 0) z a t r h) := hD
  refine lv_aload_n hx hb dX5_digest_5 rfl (lv_at hl 0 rfl) ?_
  refine lv_ldc2 (own := RX5) (v := 2017) hx hb hown (hts (.constantLong RX5 181 (2017)) (List.mem_of_getElem? (i := 2) rfl)) dX5_digest_6 ?_
  refine va_put (D := E.1) (ci := 5) (v := .long 2017) (ty := .long) (C := RX5) (T := TX5) (N := 15) hx hb hts hiX5 tyX5 tyX5_ok nmX5 hown hK hP hD hS 0 rfl rfl 14 (by decide) hf177 (fun _ h9 => h9) rfl (by decide +kernel) rfl rfl (Nat.le_of_ble_eq_true rfl) dX5_digest_9 (fun H locs hP hD hS => ?_)
  have hP : va_P E.1 vwCl (wM E A (upd G 0 0) z a t r 2017) H := hP
  have hD : va_D _ (wM E A (upd G 0 0) z a t r 2017) := hD
  refine lv_iconst (v := 0) hx hb dX5_digest_12 (by decide) ?_
  refine lv_istore_n (lv' := [(1, .int 0), (0, .ref (A 0))]) hx hb dX5_digest_13 rfl hl (by decide) rfl (fun ls hl => ?_)
  have L_14 : ∀ (n i : Nat) (h1 : Int64) (H : Heap) (locs : List Loc) (ls : Array Slot), (i + n = 15) → (dgL (fun i => (z (placeT i)).toInt64) n i h1 = dgL (fun i => (z (placeT i)).toInt64) 15 0 2017) → va_P E.1 vwCl (wM E A (upd G 0 0) z a t r h1) H → va_D (va_A (wM E A G z a t r h) s.heap.size) (wM E A (upd G 0 0) z a t r h1) → va_S (va_A (wM E A G z a t r h) s.heap.size) s.heap H locs → lv_has ls 2 [(1, .int (nI i)), (0, .ref (A 0))] → W p l e (gR wsX5_digest 6 141) s m ([.ref (A 0)] : List Value).toArray below meth c H locs 0 0 (gMQ below E s (wM E A G z a t r h) (wM E A ((stU 50 z (upd G 0 0)).2.2) z (kpL z 159 0 a) t r (dgZ z t K L (stR 50 z (upd G 0 0)) (unlike z) ((stU 50 z (upd G 0 0)).2.2 3))) (some (.long (dgZ z t K L (stR 50 z (upd G 0 0)) (unlike z) ((stU 50 z (upd G 0 0)).2.2 3)))) [.ref (A 0)]) (F0 m 14 ls []) := by
    intro n
    induction n with
    | zero =>
      intro i h1 H locs ls hin  hfn hP hD hS hl
      have hf1 : h1 = dgL (fun i => (z (placeT i)).toInt64) 15 0 2017 := hfn
      refine lv_iload_n hx hb dX5_digest_14 rfl (lv_at hl 0 rfl) ?_
      refine lv_bipush (v := 15) hx hb dX5_digest_15 (by decide) ?_
      refine lv_icmp_ge (tgt := 40) hx hb dX5_digest_17 (by decide) (fun c_17 => ?_) (fun c_17 => absurd (nI_le (a := 15) (by omega) (by omega)) c_17)
      refine lv_iconst (v := 0) hx hb dX5_digest_40 (by decide) ?_
      refine lv_istore_n (lv' := [(1, .int 0), (0, .ref (A 0))]) hx hb dX5_digest_41 rfl hl (by decide) rfl (fun ls hl => ?_)
      have L_42 : ∀ (n i : Nat) (h2 : Int64) (H : Heap) (locs : List Loc) (ls : Array Slot), (i + n = 15) → (dgL (fun i => (z i).toInt64) n i h2 = dgL (fun i => (z i).toInt64) 15 0 h1) → va_P E.1 vwCl (wM E A (upd G 0 0) z a t r h2) H → va_D (va_A (wM E A G z a t r h) s.heap.size) (wM E A (upd G 0 0) z a t r h2) → va_S (va_A (wM E A G z a t r h) s.heap.size) s.heap H locs → lv_has ls 2 [(1, .int (nI i)), (0, .ref (A 0))] → W p l e (gR wsX5_digest 6 141) s m ([.ref (A 0)] : List Value).toArray below meth c H locs 0 0 (gMQ below E s (wM E A G z a t r h) (wM E A ((stU 50 z (upd G 0 0)).2.2) z (kpL z 159 0 a) t r (dgZ z t K L (stR 50 z (upd G 0 0)) (unlike z) ((stU 50 z (upd G 0 0)).2.2 3))) (some (.long (dgZ z t K L (stR 50 z (upd G 0 0)) (unlike z) ((stU 50 z (upd G 0 0)).2.2 3)))) [.ref (A 0)]) (F0 m 42 ls []) := by
        intro n
        induction n with
        | zero =>
          intro i h2 H locs ls hin  hfn hP hD hS hl
          have hf2 : h2 = dgL (fun i => (z i).toInt64) 15 0 h1 := hfn
          refine lv_iload_n hx hb dX5_digest_42 rfl (lv_at hl 0 rfl) ?_
          refine lv_bipush (v := 15) hx hb dX5_digest_43 (by decide) ?_
          refine lv_icmp_ge (tgt := 65) hx hb dX5_digest_45 (by decide) (fun c_45 => ?_) (fun c_45 => absurd (nI_le (a := 15) (by omega) (by omega)) c_45)
          refine lv_iconst (v := 0) hx hb dX5_digest_65 (by decide) ?_
          refine lv_istore_n (lv' := [(1, .int 0), (0, .ref (A 0))]) hx hb dX5_digest_66 rfl hl (by decide) rfl (fun ls hl => ?_)
          have L_67 : ∀ (n i : Nat) (h3 : Int64) (H : Heap) (locs : List Loc) (ls : Array Slot), (i + n = 7 * nOf z) → (dgL (fun i => (z (35 + i)).toInt64) n i h3 = dgL (fun i => (z (35 + i)).toInt64) (7 * nOf z) 0 h2) → va_P E.1 vwCl (wM E A (upd G 0 0) z a t r h3) H → va_D (va_A (wM E A G z a t r h) s.heap.size) (wM E A (upd G 0 0) z a t r h3) → va_S (va_A (wM E A G z a t r h) s.heap.size) s.heap H locs → lv_has ls 2 [(1, .int (nI i)), (0, .ref (A 0))] → W p l e (gR wsX5_digest 6 141) s m ([.ref (A 0)] : List Value).toArray below meth c H locs 0 0 (gMQ below E s (wM E A G z a t r h) (wM E A ((stU 50 z (upd G 0 0)).2.2) z (kpL z 159 0 a) t r (dgZ z t K L (stR 50 z (upd G 0 0)) (unlike z) ((stU 50 z (upd G 0 0)).2.2 3))) (some (.long (dgZ z t K L (stR 50 z (upd G 0 0)) (unlike z) ((stU 50 z (upd G 0 0)).2.2 3)))) [.ref (A 0)]) (F0 m 67 ls []) := by
            intro n
            induction n with
            | zero =>
              intro i h3 H locs ls hin  hfn hP hD hS hl
              have hf3 : h3 = dgL (fun i => (z (35 + i)).toInt64) (7 * nOf z) 0 h2 := hfn
              refine lv_iload_n hx hb dX5_digest_67 rfl (lv_at hl 0 rfl) ?_
              refine lv_bipush (v := 7) hx hb dX5_digest_68 (by decide) ?_
              refine lv_aload_n hx hb dX5_digest_70 rfl (lv_at hl 1 rfl) ?_
              refine va_get (D := E.1) (ci := 5) (v := .ref (A 1)) (C := RX5) (T := TX5) (N := 15) hx hb hts hiX5 hown hK hP 0 rfl rfl 1 (by decide) hf7 (fun _ h9 => h9) rfl dX5_digest_71 ?_
              refine lv_bipush (v := 15) hx hb dX5_digest_74 (by decide) ?_
              refine gald (x := z 15) hx hb hK hP 1 rfl 15 (rfl) (by decide) (by decide) rfl dX5_digest_76 ?_
              refine lv_imul hx hb dX5_digest_77 ?_
              refine lv_icmp_ge (tgt := 101) hx hb dX5_digest_78 (by decide) (fun c_78 => ?_) (fun c_78 => absurd (by rw [h7]; exact nI_le (by omega) (by omega)) c_78)
              refine lv_iconst (v := 0) hx hb dX5_digest_101 (by decide) ?_
              refine lv_istore_n (lv' := [(1, .int 0), (0, .ref (A 0))]) hx hb dX5_digest_102 rfl hl (by decide) rfl (fun ls hl => ?_)
              have L_103 : ∀ (n i : Nat) (h4 : Int64) (H : Heap) (locs : List Loc) (ls : Array Slot), (i + n = 6 * K) → (dgL (fun i => (z (63 + i)).toInt64) n i h4 = dgL (fun i => (z (63 + i)).toInt64) (6 * K) 0 h3) → va_P E.1 vwCl (wM E A (upd G 0 0) z a t r h4) H → va_D (va_A (wM E A G z a t r h) s.heap.size) (wM E A (upd G 0 0) z a t r h4) → va_S (va_A (wM E A G z a t r h) s.heap.size) s.heap H locs → lv_has ls 2 [(1, .int (nI i)), (0, .ref (A 0))] → W p l e (gR wsX5_digest 6 141) s m ([.ref (A 0)] : List Value).toArray below meth c H locs 0 0 (gMQ below E s (wM E A G z a t r h) (wM E A ((stU 50 z (upd G 0 0)).2.2) z (kpL z 159 0 a) t r (dgZ z t K L (stR 50 z (upd G 0 0)) (unlike z) ((stU 50 z (upd G 0 0)).2.2 3))) (some (.long (dgZ z t K L (stR 50 z (upd G 0 0)) (unlike z) ((stU 50 z (upd G 0 0)).2.2 3)))) [.ref (A 0)]) (F0 m 103 ls []) := by
                intro n
                induction n with
                | zero =>
                  intro i h4 H locs ls hin  hfn hP hD hS hl
                  have hf4 : h4 = dgL (fun i => (z (63 + i)).toInt64) (6 * K) 0 h3 := hfn
                  refine lv_iload_n hx hb dX5_digest_103 rfl (lv_at hl 0 rfl) ?_
                  refine lv_bipush (v := 6) hx hb dX5_digest_104 (by decide) ?_
                  refine lv_aload_n hx hb dX5_digest_106 rfl (lv_at hl 1 rfl) ?_
                  refine va_get (D := E.1) (ci := 5) (v := .ref (A 1)) (C := RX5) (T := TX5) (N := 15) hx hb hts hiX5 hown hK hP 0 rfl rfl 1 (by decide) hf7 (fun _ h9 => h9) rfl dX5_digest_107 ?_
                  refine lv_bipush (v := 31) hx hb dX5_digest_110 (by decide) ?_
                  refine gald (x := z 31) hx hb hK hP 1 rfl 31 (rfl) (by decide) (by decide) rfl dX5_digest_112 ?_
                  refine lv_imul hx hb dX5_digest_113 ?_
                  refine lv_icmp_ge (tgt := 137) hx hb dX5_digest_114 (by decide) (fun c_114 => ?_) (fun c_114 => absurd (by rw [h6]; exact nI_le (by omega) (by omega)) c_114)
                  refine lv_aload_n hx hb dX5_digest_137 rfl (lv_at hl 1 rfl) ?_
                  refine lv_aload_n hx hb dX5_digest_138 rfl (lv_at hl 1 rfl) ?_
                  refine lv_bipush (v := 50) hx hb dX5_digest_139 (by decide) ?_
                  refine gv0i (As := [.int 50]) (rest := [.ref (A 0)]) ⟨hx, hb, hml, hown, hts⟩ (c_X5_settledAt l E A (upd G 0 0) z a t r h4 50 hz) (cwV 1 hts gX5_digest_X5_settledAt rfl rfl rfl (by decide +kernel) ⟨Nat.le_of_ble_eq_true rfl, Nat.le_of_ble_eq_true rfl⟩) (va_recv hK hP (ci := 5) (q0 := 0) rfl rfl) hP hK hD hN hS hA rfl hl.1 rfl (Nat.le_of_ble_eq_true rfl) dX5_digest_141 ⟨Nat.le_refl _, Nat.le_refl _⟩ (fun H locs hP hD hS => ?_)
                  have hP : va_P E.1 vwCl (wM E A ((stU 50 z (upd G 0 0)).2.2) z (kpL z 159 0 a) t r h4) H := hP
                  have hD : va_D _ (wM E A ((stU 50 z (upd G 0 0)).2.2) z (kpL z 159 0 a) t r h4) := hD
                  refine lv_i2l hx hb dX5_digest_144 rfl ?_
                  refine gv0v (As := [.long (Int32.toInt64 (stR 50 z (upd G 0 0)))]) (rest := []) ⟨hx, hb, hml, hown, hts⟩ (c_X5_mix l E A ((stU 50 z (upd G 0 0)).2.2) z (kpL z 159 0 a) t r h4 (Int32.toInt64 (stR 50 z (upd G 0 0)))) (cwV 1 hts gX5_digest_X5_mix rfl rfl rfl (by decide +kernel) ⟨Nat.le_of_ble_eq_true rfl, Nat.le_of_ble_eq_true rfl⟩) (va_recv hK hP (ci := 5) (q0 := 0) rfl rfl) hP hK hD hN hS hA rfl hl.1 rfl (Nat.le_of_ble_eq_true rfl) dX5_digest_145 ⟨Nat.le_refl _, Nat.le_refl _⟩ (fun H locs hP hD hS => ?_)
                  have hP : va_P E.1 vwCl (wM E A ((stU 50 z (upd G 0 0)).2.2) z (kpL z 159 0 a) t r (31 * h4 + (Int32.toInt64 (stR 50 z (upd G 0 0))))) H := hP
                  have hD : va_D _ (wM E A ((stU 50 z (upd G 0 0)).2.2) z (kpL z 159 0 a) t r (31 * h4 + (Int32.toInt64 (stR 50 z (upd G 0 0))))) := hD
                  refine lv_aload_n hx hb dX5_digest_148 rfl (lv_at hl 1 rfl) ?_
                  refine lv_aload_n hx hb dX5_digest_149 rfl (lv_at hl 1 rfl) ?_
                  refine gv0i (As := []) (rest := [.ref (A 0)]) ⟨hx, hb, hml, hown, hts⟩ (c_X5_unlike l E A ((stU 50 z (upd G 0 0)).2.2) z (kpL z 159 0 a) t r (31 * h4 + (Int32.toInt64 (stR 50 z (upd G 0 0)))) hz) (cwV 0 hts gX5_digest_X5_unlike rfl rfl rfl (by decide +kernel) ⟨Nat.le_of_ble_eq_true rfl, Nat.le_of_ble_eq_true rfl⟩) (va_recv hK hP (ci := 5) (q0 := 0) rfl rfl) hP hK hD hN hS hA rfl hl.1 rfl (Nat.le_of_ble_eq_true rfl) dX5_digest_150 ⟨Nat.le_refl _, Nat.le_refl _⟩ (fun H locs hP hD hS => ?_)
                  refine lv_i2l hx hb dX5_digest_153 rfl ?_
                  refine gv0v (As := [.long (Int32.toInt64 (unlike z))]) (rest := []) ⟨hx, hb, hml, hown, hts⟩ (c_X5_mix l E A ((stU 50 z (upd G 0 0)).2.2) z (kpL z 159 0 a) t r (31 * h4 + (Int32.toInt64 (stR 50 z (upd G 0 0)))) (Int32.toInt64 (unlike z))) (cwV 1 hts gX5_digest_X5_mix rfl rfl rfl (by decide +kernel) ⟨Nat.le_of_ble_eq_true rfl, Nat.le_of_ble_eq_true rfl⟩) (va_recv hK hP (ci := 5) (q0 := 0) rfl rfl) hP hK hD hN hS hA rfl hl.1 rfl (Nat.le_of_ble_eq_true rfl) dX5_digest_154 ⟨Nat.le_refl _, Nat.le_refl _⟩ (fun H locs hP hD hS => ?_)
                  have hP : va_P E.1 vwCl (wM E A ((stU 50 z (upd G 0 0)).2.2) z (kpL z 159 0 a) t r (31 * (31 * h4 + (Int32.toInt64 (stR 50 z (upd G 0 0)))) + (Int32.toInt64 (unlike z)))) H := hP
                  have hD : va_D _ (wM E A ((stU 50 z (upd G 0 0)).2.2) z (kpL z 159 0 a) t r (31 * (31 * h4 + (Int32.toInt64 (stR 50 z (upd G 0 0)))) + (Int32.toInt64 (unlike z)))) := hD
                  refine lv_aload_n hx hb dX5_digest_157 rfl (lv_at hl 1 rfl) ?_
                  refine lv_aload_n hx hb dX5_digest_158 rfl (lv_at hl 1 rfl) ?_
                  refine va_get (D := E.1) (ci := 5) (v := .int (((stU 50 z (upd G 0 0)).2.2) 3)) (C := RX5) (T := TX5) (N := 15) hx hb hts hiX5 hown hK hP 0 rfl rfl 3 (by decide) hf111 (fun _ h9 => h9) rfl dX5_digest_159 ?_
                  refine lv_i2l hx hb dX5_digest_162 rfl ?_
                  refine gv0v (As := [.long (Int32.toInt64 (((stU 50 z (upd G 0 0)).2.2) 3))]) (rest := []) ⟨hx, hb, hml, hown, hts⟩ (c_X5_mix l E A ((stU 50 z (upd G 0 0)).2.2) z (kpL z 159 0 a) t r (31 * (31 * h4 + (Int32.toInt64 (stR 50 z (upd G 0 0)))) + (Int32.toInt64 (unlike z))) (Int32.toInt64 (((stU 50 z (upd G 0 0)).2.2) 3))) (cwV 1 hts gX5_digest_X5_mix rfl rfl rfl (by decide +kernel) ⟨Nat.le_of_ble_eq_true rfl, Nat.le_of_ble_eq_true rfl⟩) (va_recv hK hP (ci := 5) (q0 := 0) rfl rfl) hP hK hD hN hS hA rfl hl.1 rfl (Nat.le_of_ble_eq_true rfl) dX5_digest_163 ⟨Nat.le_refl _, Nat.le_refl _⟩ (fun H locs hP hD hS => ?_)
                  have hP : va_P E.1 vwCl (wM E A ((stU 50 z (upd G 0 0)).2.2) z (kpL z 159 0 a) t r (31 * (31 * (31 * h4 + (Int32.toInt64 (stR 50 z (upd G 0 0)))) + (Int32.toInt64 (unlike z))) + (Int32.toInt64 (((stU 50 z (upd G 0 0)).2.2) 3)))) H := hP
                  have hD : va_D _ (wM E A ((stU 50 z (upd G 0 0)).2.2) z (kpL z 159 0 a) t r (31 * (31 * (31 * h4 + (Int32.toInt64 (stR 50 z (upd G 0 0)))) + (Int32.toInt64 (unlike z))) + (Int32.toInt64 (((stU 50 z (upd G 0 0)).2.2) 3)))) := hD
                  refine lv_iconst (v := 0) hx hb dX5_digest_166 (by decide) ?_
                  refine lv_istore_n (lv' := [(1, .int 0), (0, .ref (A 0))]) hx hb dX5_digest_167 rfl hl (by decide) rfl (fun ls hl => ?_)
                  have L_168 : ∀ (n i : Nat) (h5 : Int64) (H : Heap) (locs : List Loc) (ls : Array Slot), (i + n = L) → (dgL (fun i => (t i).toInt64) n i h5 = dgL (fun i => (t i).toInt64) L 0 (31 * (31 * (31 * h4 + (Int32.toInt64 (stR 50 z (upd G 0 0)))) + (Int32.toInt64 (unlike z))) + (Int32.toInt64 (((stU 50 z (upd G 0 0)).2.2) 3)))) → va_P E.1 vwCl (wM E A ((stU 50 z (upd G 0 0)).2.2) z (kpL z 159 0 a) t r h5) H → va_D (va_A (wM E A G z a t r h) s.heap.size) (wM E A ((stU 50 z (upd G 0 0)).2.2) z (kpL z 159 0 a) t r h5) → va_S (va_A (wM E A G z a t r h) s.heap.size) s.heap H locs → lv_has ls 2 [(1, .int (nI i)), (0, .ref (A 0))] → W p l e (gR wsX5_digest 6 141) s m ([.ref (A 0)] : List Value).toArray below meth c H locs 0 0 (gMQ below E s (wM E A G z a t r h) (wM E A ((stU 50 z (upd G 0 0)).2.2) z (kpL z 159 0 a) t r (dgZ z t K L (stR 50 z (upd G 0 0)) (unlike z) ((stU 50 z (upd G 0 0)).2.2 3))) (some (.long (dgZ z t K L (stR 50 z (upd G 0 0)) (unlike z) ((stU 50 z (upd G 0 0)).2.2 3)))) [.ref (A 0)]) (F0 m 168 ls []) := by
                    intro n
                    induction n with
                    | zero =>
                      intro i h5 H locs ls hin  hfn hP hD hS hl
                      have hf5 : h5 = dgZ z t K L (stR 50 z (upd G 0 0)) (unlike z) ((stU 50 z (upd G 0 0)).2.2 3) := by unfold dgZ; rw [← hf1, ← hf2, ← hf3, ← hf4]; exact hfn
                      refine lv_iload_n hx hb dX5_digest_168 rfl (lv_at hl 0 rfl) ?_
                      refine lv_aload_n hx hb dX5_digest_169 rfl (lv_at hl 1 rfl) ?_
                      refine va_get (D := E.1) (ci := 5) (v := .int (((stU 50 z (upd G 0 0)).2.2) 3)) (C := RX5) (T := TX5) (N := 15) hx hb hts hiX5 hown hK hP 0 rfl rfl 3 (by decide) hf111 (fun _ h9 => h9) rfl dX5_digest_170 ?_
                      refine lv_icmp_ge (tgt := 193) hx hb dX5_digest_173 (by decide) (fun c_173 => ?_) (fun c_173 => absurd (by rw [hL2]; exact nI_le (by omega) (by omega)) c_173)
                      refine lv_aload_n hx hb dX5_digest_193 rfl (lv_at hl 1 rfl) ?_
                      refine va_get (D := E.1) (ci := 5) (v := .long h5) (C := RX5) (T := TX5) (N := 15) hx hb hts hiX5 hown hK hP 0 rfl rfl 14 (by decide) hf177 (fun _ h9 => h9) rfl dX5_digest_194 ?_
                      exact gretj hx hb hr hlocks hP hD hS (hf5) (by rw [← hf5]) dX5_digest_197
                    | succ n ih =>
                      intro i h5 H locs ls hin  hfn hP hD hS hl
                      refine lv_iload_n hx hb dX5_digest_168 rfl (lv_at hl 0 rfl) ?_
                      refine lv_aload_n hx hb dX5_digest_169 rfl (lv_at hl 1 rfl) ?_
                      refine va_get (D := E.1) (ci := 5) (v := .int (((stU 50 z (upd G 0 0)).2.2) 3)) (C := RX5) (T := TX5) (N := 15) hx hb hts hiX5 hown hK hP 0 rfl rfl 3 (by decide) hf111 (fun _ h9 => h9) rfl dX5_digest_170 ?_
                      refine lv_icmp_ge (tgt := 193) hx hb dX5_digest_173 (by decide) (fun c_173 => absurd c_173 (by rw [hL2]; exact nI_ge (by omega) (by omega))) (fun c_173 => ?_)
                      refine lv_aload_n hx hb dX5_digest_176 rfl (lv_at hl 1 rfl) ?_
                      refine lv_aload_n hx hb dX5_digest_177 rfl (lv_at hl 1 rfl) ?_
                      refine va_get (D := E.1) (ci := 5) (v := .ref (A 3)) (C := RX5) (T := TX5) (N := 15) hx hb hts hiX5 hown hK hP 0 rfl rfl 4 (by decide) hf16 (fun _ h9 => h9) rfl dX5_digest_178 ?_
                      refine lv_iload_n hx hb dX5_digest_181 rfl (lv_at hl 0 rfl) ?_
                      refine gald (x := t i) hx hb hK hP 3 rfl i (rfl) (by omega) (by decide) rfl dX5_digest_182 ?_
                      refine lv_i2l hx hb dX5_digest_183 rfl ?_
                      refine gv0v (As := [.long (Int32.toInt64 (t i))]) (rest := []) ⟨hx, hb, hml, hown, hts⟩ (c_X5_mix l E A ((stU 50 z (upd G 0 0)).2.2) z (kpL z 159 0 a) t r h5 (Int32.toInt64 (t i))) (cwV 1 hts gX5_digest_X5_mix rfl rfl rfl (by decide +kernel) ⟨Nat.le_of_ble_eq_true rfl, Nat.le_of_ble_eq_true rfl⟩) (va_recv hK hP (ci := 5) (q0 := 0) rfl rfl) hP hK hD hN hS hA rfl hl.1 rfl (Nat.le_of_ble_eq_true rfl) dX5_digest_184 ⟨Nat.le_refl _, Nat.le_refl _⟩ (fun H locs hP hD hS => ?_)
                      have hP : va_P E.1 vwCl (wM E A ((stU 50 z (upd G 0 0)).2.2) z (kpL z 159 0 a) t r (31 * h5 + (Int32.toInt64 (t i)))) H := hP
                      have hD : va_D _ (wM E A ((stU 50 z (upd G 0 0)).2.2) z (kpL z 159 0 a) t r (31 * h5 + (Int32.toInt64 (t i)))) := hD
                      refine lv_iinc (v := nI (i + 1)) (lv' := [(1, .int (nI (i + 1))), (0, .ref (A 0))]) hx hb dX5_digest_187 hl (k := 0) rfl (nI_1 _) (by decide) rfl (fun ls hl => ?_)
                      refine lv_goto (tgt := 168) hx hb dX5_digest_190 (by decide) ?_
                      exact ih (i + 1) (31 * h5 + (Int32.toInt64 (t i))) H locs ls (by omega)  (hfn) hP hD hS (lv_sub hl [0, 1] rfl)
                  exact L_168 (L) (0) (31 * (31 * (31 * h4 + (Int32.toInt64 (stR 50 z (upd G 0 0)))) + (Int32.toInt64 (unlike z))) + (Int32.toInt64 (((stU 50 z (upd G 0 0)).2.2) 3))) H locs ls (by omega)  rfl hP hD hS (lv_sub hl [0, 1] rfl)
                | succ n ih =>
                  intro i h4 H locs ls hin  hfn hP hD hS hl
                  refine lv_iload_n hx hb dX5_digest_103 rfl (lv_at hl 0 rfl) ?_
                  refine lv_bipush (v := 6) hx hb dX5_digest_104 (by decide) ?_
                  refine lv_aload_n hx hb dX5_digest_106 rfl (lv_at hl 1 rfl) ?_
                  refine va_get (D := E.1) (ci := 5) (v := .ref (A 1)) (C := RX5) (T := TX5) (N := 15) hx hb hts hiX5 hown hK hP 0 rfl rfl 1 (by decide) hf7 (fun _ h9 => h9) rfl dX5_digest_107 ?_
                  refine lv_bipush (v := 31) hx hb dX5_digest_110 (by decide) ?_
                  refine gald (x := z 31) hx hb hK hP 1 rfl 31 (rfl) (by decide) (by decide) rfl dX5_digest_112 ?_
                  refine lv_imul hx hb dX5_digest_113 ?_
                  refine lv_icmp_ge (tgt := 137) hx hb dX5_digest_114 (by decide) (fun c_114 => absurd c_114 (by rw [h6]; exact nI_ge (by omega) (by omega))) (fun c_114 => ?_)
                  refine lv_aload_n hx hb dX5_digest_117 rfl (lv_at hl 1 rfl) ?_
                  refine lv_aload_n hx hb dX5_digest_118 rfl (lv_at hl 1 rfl) ?_
                  refine va_get (D := E.1) (ci := 5) (v := .ref (A 1)) (C := RX5) (T := TX5) (N := 15) hx hb hts hiX5 hown hK hP 0 rfl rfl 1 (by decide) hf7 (fun _ h9 => h9) rfl dX5_digest_119 ?_
                  refine lv_bipush (v := 63) hx hb dX5_digest_122 (by decide) ?_
                  refine lv_iload_n hx hb dX5_digest_124 rfl (lv_at hl 0 rfl) ?_
                  refine lv_iadd hx hb dX5_digest_125 ?_
                  refine gald (x := z (63 + i)) hx hb hK hP 1 rfl (63 + i) (nI_add 63 i) (by omega) (by decide) rfl dX5_digest_126 ?_
                  refine lv_i2l hx hb dX5_digest_127 rfl ?_
                  refine gv0v (As := [.long (Int32.toInt64 (z (63 + i)))]) (rest := []) ⟨hx, hb, hml, hown, hts⟩ (c_X5_mix l E A (upd G 0 0) z a t r h4 (Int32.toInt64 (z (63 + i)))) (cwV 1 hts gX5_digest_X5_mix rfl rfl rfl (by decide +kernel) ⟨Nat.le_of_ble_eq_true rfl, Nat.le_of_ble_eq_true rfl⟩) (va_recv hK hP (ci := 5) (q0 := 0) rfl rfl) hP hK hD hN hS hA rfl hl.1 rfl (Nat.le_of_ble_eq_true rfl) dX5_digest_128 ⟨Nat.le_refl _, Nat.le_refl _⟩ (fun H locs hP hD hS => ?_)
                  have hP : va_P E.1 vwCl (wM E A (upd G 0 0) z a t r (31 * h4 + (Int32.toInt64 (z (63 + i))))) H := hP
                  have hD : va_D _ (wM E A (upd G 0 0) z a t r (31 * h4 + (Int32.toInt64 (z (63 + i))))) := hD
                  refine lv_iinc (v := nI (i + 1)) (lv' := [(1, .int (nI (i + 1))), (0, .ref (A 0))]) hx hb dX5_digest_131 hl (k := 0) rfl (nI_1 _) (by decide) rfl (fun ls hl => ?_)
                  refine lv_goto (tgt := 103) hx hb dX5_digest_134 (by decide) ?_
                  exact ih (i + 1) (31 * h4 + (Int32.toInt64 (z (63 + i)))) H locs ls (by omega)  (hfn) hP hD hS (lv_sub hl [0, 1] rfl)
              exact L_103 (6 * K) (0) h3 H locs ls (by omega)  rfl hP hD hS (lv_sub hl [0, 1] rfl)
            | succ n ih =>
              intro i h3 H locs ls hin  hfn hP hD hS hl
              refine lv_iload_n hx hb dX5_digest_67 rfl (lv_at hl 0 rfl) ?_
              refine lv_bipush (v := 7) hx hb dX5_digest_68 (by decide) ?_
              refine lv_aload_n hx hb dX5_digest_70 rfl (lv_at hl 1 rfl) ?_
              refine va_get (D := E.1) (ci := 5) (v := .ref (A 1)) (C := RX5) (T := TX5) (N := 15) hx hb hts hiX5 hown hK hP 0 rfl rfl 1 (by decide) hf7 (fun _ h9 => h9) rfl dX5_digest_71 ?_
              refine lv_bipush (v := 15) hx hb dX5_digest_74 (by decide) ?_
              refine gald (x := z 15) hx hb hK hP 1 rfl 15 (rfl) (by decide) (by decide) rfl dX5_digest_76 ?_
              refine lv_imul hx hb dX5_digest_77 ?_
              refine lv_icmp_ge (tgt := 101) hx hb dX5_digest_78 (by decide) (fun c_78 => absurd c_78 (by rw [h7]; exact nI_ge (by omega) (by omega))) (fun c_78 => ?_)
              refine lv_aload_n hx hb dX5_digest_81 rfl (lv_at hl 1 rfl) ?_
              refine lv_aload_n hx hb dX5_digest_82 rfl (lv_at hl 1 rfl) ?_
              refine va_get (D := E.1) (ci := 5) (v := .ref (A 1)) (C := RX5) (T := TX5) (N := 15) hx hb hts hiX5 hown hK hP 0 rfl rfl 1 (by decide) hf7 (fun _ h9 => h9) rfl dX5_digest_83 ?_
              refine lv_bipush (v := 35) hx hb dX5_digest_86 (by decide) ?_
              refine lv_iload_n hx hb dX5_digest_88 rfl (lv_at hl 0 rfl) ?_
              refine lv_iadd hx hb dX5_digest_89 ?_
              refine gald (x := z (35 + i)) hx hb hK hP 1 rfl (35 + i) (nI_add 35 i) (by omega) (by decide) rfl dX5_digest_90 ?_
              refine lv_i2l hx hb dX5_digest_91 rfl ?_
              refine gv0v (As := [.long (Int32.toInt64 (z (35 + i)))]) (rest := []) ⟨hx, hb, hml, hown, hts⟩ (c_X5_mix l E A (upd G 0 0) z a t r h3 (Int32.toInt64 (z (35 + i)))) (cwV 1 hts gX5_digest_X5_mix rfl rfl rfl (by decide +kernel) ⟨Nat.le_of_ble_eq_true rfl, Nat.le_of_ble_eq_true rfl⟩) (va_recv hK hP (ci := 5) (q0 := 0) rfl rfl) hP hK hD hN hS hA rfl hl.1 rfl (Nat.le_of_ble_eq_true rfl) dX5_digest_92 ⟨Nat.le_refl _, Nat.le_refl _⟩ (fun H locs hP hD hS => ?_)
              have hP : va_P E.1 vwCl (wM E A (upd G 0 0) z a t r (31 * h3 + (Int32.toInt64 (z (35 + i))))) H := hP
              have hD : va_D _ (wM E A (upd G 0 0) z a t r (31 * h3 + (Int32.toInt64 (z (35 + i))))) := hD
              refine lv_iinc (v := nI (i + 1)) (lv' := [(1, .int (nI (i + 1))), (0, .ref (A 0))]) hx hb dX5_digest_95 hl (k := 0) rfl (nI_1 _) (by decide) rfl (fun ls hl => ?_)
              refine lv_goto (tgt := 67) hx hb dX5_digest_98 (by decide) ?_
              exact ih (i + 1) (31 * h3 + (Int32.toInt64 (z (35 + i)))) H locs ls (by omega)  (hfn) hP hD hS (lv_sub hl [0, 1] rfl)
          exact L_67 (7 * nOf z) (0) h2 H locs ls (by omega)  rfl hP hD hS (lv_sub hl [0, 1] rfl)
        | succ n ih =>
          intro i h2 H locs ls hin  hfn hP hD hS hl
          refine lv_iload_n hx hb dX5_digest_42 rfl (lv_at hl 0 rfl) ?_
          refine lv_bipush (v := 15) hx hb dX5_digest_43 (by decide) ?_
          refine lv_icmp_ge (tgt := 65) hx hb dX5_digest_45 (by decide) (fun c_45 => absurd c_45 (nI_ge (b := 15) (by omega) (by omega))) (fun c_45 => ?_)
          refine lv_aload_n hx hb dX5_digest_48 rfl (lv_at hl 1 rfl) ?_
          refine lv_aload_n hx hb dX5_digest_49 rfl (lv_at hl 1 rfl) ?_
          refine va_get (D := E.1) (ci := 5) (v := .ref (A 1)) (C := RX5) (T := TX5) (N := 15) hx hb hts hiX5 hown hK hP 0 rfl rfl 1 (by decide) hf7 (fun _ h9 => h9) rfl dX5_digest_50 ?_
          refine lv_iload_n hx hb dX5_digest_53 rfl (lv_at hl 0 rfl) ?_
          refine gald (x := z i) hx hb hK hP 1 rfl i (rfl) (by omega) (by decide) rfl dX5_digest_54 ?_
          refine lv_i2l hx hb dX5_digest_55 rfl ?_
          refine gv0v (As := [.long (Int32.toInt64 (z i))]) (rest := []) ⟨hx, hb, hml, hown, hts⟩ (c_X5_mix l E A (upd G 0 0) z a t r h2 (Int32.toInt64 (z i))) (cwV 1 hts gX5_digest_X5_mix rfl rfl rfl (by decide +kernel) ⟨Nat.le_of_ble_eq_true rfl, Nat.le_of_ble_eq_true rfl⟩) (va_recv hK hP (ci := 5) (q0 := 0) rfl rfl) hP hK hD hN hS hA rfl hl.1 rfl (Nat.le_of_ble_eq_true rfl) dX5_digest_56 ⟨Nat.le_refl _, Nat.le_refl _⟩ (fun H locs hP hD hS => ?_)
          have hP : va_P E.1 vwCl (wM E A (upd G 0 0) z a t r (31 * h2 + (Int32.toInt64 (z i)))) H := hP
          have hD : va_D _ (wM E A (upd G 0 0) z a t r (31 * h2 + (Int32.toInt64 (z i)))) := hD
          refine lv_iinc (v := nI (i + 1)) (lv' := [(1, .int (nI (i + 1))), (0, .ref (A 0))]) hx hb dX5_digest_59 hl (k := 0) rfl (nI_1 _) (by decide) rfl (fun ls hl => ?_)
          refine lv_goto (tgt := 42) hx hb dX5_digest_62 (by decide) ?_
          exact ih (i + 1) (31 * h2 + (Int32.toInt64 (z i))) H locs ls (by omega)  (hfn) hP hD hS (lv_sub hl [0, 1] rfl)
      exact L_42 (15) (0) h1 H locs ls (by omega)  rfl hP hD hS (lv_sub hl [0, 1] rfl)
    | succ n ih =>
      intro i h1 H locs ls hin  hfn hP hD hS hl
      refine lv_iload_n hx hb dX5_digest_14 rfl (lv_at hl 0 rfl) ?_
      refine lv_bipush (v := 15) hx hb dX5_digest_15 (by decide) ?_
      refine lv_icmp_ge (tgt := 40) hx hb dX5_digest_17 (by decide) (fun c_17 => absurd c_17 (nI_ge (b := 15) (by omega) (by omega))) (fun c_17 => ?_)
      refine lv_aload_n hx hb dX5_digest_20 rfl (lv_at hl 1 rfl) ?_
      refine lv_aload_n hx hb dX5_digest_21 rfl (lv_at hl 1 rfl) ?_
      refine va_get (D := E.1) (ci := 5) (v := .ref (A 1)) (C := RX5) (T := TX5) (N := 15) hx hb hts hiX5 hown hK hP 0 rfl rfl 1 (by decide) hf7 (fun _ h9 => h9) rfl dX5_digest_22 ?_
      refine lv_iload_n hx hb dX5_digest_25 rfl (lv_at hl 0 rfl) ?_
      refine gsPi (As := [.int (nI i)]) (rest := [.ref (A 1), .ref (A 0)]) ⟨hx, hb, hml, hown, hts⟩ (c_X5_place l E i (by omega)) (va_cwS 1 hts gX5_digest_X5_place rfl rfl rfl (by decide +kernel) ⟨Nat.le_of_ble_eq_true rfl, Nat.le_of_ble_eq_true rfl⟩) hP hK hD hN hS hA rfl hl.1 rfl (Nat.le_of_ble_eq_true rfl) dX5_digest_26 ⟨Nat.le_refl _, Nat.le_refl _⟩ (fun H locs hP hD hS => ?_)
      refine gald (x := z (placeT i)) hx hb hK hP 1 rfl (placeT i) (rfl) (placeT_lt (by omega)) (by decide) rfl dX5_digest_29 ?_
      refine lv_i2l hx hb dX5_digest_30 rfl ?_
      refine gv0v (As := [.long (Int32.toInt64 (z (placeT i)))]) (rest := []) ⟨hx, hb, hml, hown, hts⟩ (c_X5_mix l E A (upd G 0 0) z a t r h1 (Int32.toInt64 (z (placeT i)))) (cwV 1 hts gX5_digest_X5_mix rfl rfl rfl (by decide +kernel) ⟨Nat.le_of_ble_eq_true rfl, Nat.le_of_ble_eq_true rfl⟩) (va_recv hK hP (ci := 5) (q0 := 0) rfl rfl) hP hK hD hN hS hA rfl hl.1 rfl (Nat.le_of_ble_eq_true rfl) dX5_digest_31 ⟨Nat.le_refl _, Nat.le_refl _⟩ (fun H locs hP hD hS => ?_)
      have hP : va_P E.1 vwCl (wM E A (upd G 0 0) z a t r (31 * h1 + (Int32.toInt64 (z (placeT i))))) H := hP
      have hD : va_D _ (wM E A (upd G 0 0) z a t r (31 * h1 + (Int32.toInt64 (z (placeT i))))) := hD
      refine lv_iinc (v := nI (i + 1)) (lv' := [(1, .int (nI (i + 1))), (0, .ref (A 0))]) hx hb dX5_digest_34 hl (k := 0) rfl (nI_1 _) (by decide) rfl (fun ls hl => ?_)
      refine lv_goto (tgt := 14) hx hb dX5_digest_37 (by decide) ?_
      exact ih (i + 1) (31 * h1 + (Int32.toInt64 (z (placeT i)))) H locs ls (by omega)  (hfn) hP hD hS (lv_sub hl [0, 1] rfl)
  exact L_14 (15) (0) 2017 H locs ls (by omega)  rfl hP hD hS (lv_sub hl [0, 1] rfl)
