set_option maxHeartbeats 4000000 in
set_option maxRecDepth 100000 in
theorem c_X5_ifLoaded (l : Launch) (E : EE) (A : Nat → Nat) (G z a t r : Nat → Int32) (h : Int64) (v1 v2 v3 : Int32) (hz : zOK z) : GM l yX5_ifLoaded wsX5_ifLoaded 5 118 E (wM E A G z a t r h) [.ref (A 0), .int v1, .int v2, .int v3] (wM E A (ilG v1 v2 v3 z G) z (ilS v1 v2 v3 z a) t r h) (some (.int (ilR v1 v2 v3 z G))) := by
  intro sz
  refine Met.ofW (cc := cX5_ifLoaded) (maxL := 5) (ret := (some .int)) (by decide) rfl ?_
  intro p e s m args below meth c s₁ B hml hv
  obtain ⟨rfl, rfl, hP, hK, hD0, hN⟩ := hv
  have hx := B.exec
  have hb := B.bytes
  have hr := B.returns
  have hts := atoms_spec (ws := wsX5_ifLoaded) B.pre
  have hown : s.vm.findClass RX5 = some m.cls := findClass_of_methodNamed B.named
  have hlocks := B.notSynchronized
  have hD := hD0.self (sz := s.heap.size)
  have hA : ∀ q : Nat, s.heap.size ≤ q → va_A (wM E A G z a t r h) s.heap.size q := fun q h => Or.inr h
  have hS : va_S (va_A (wM E A G z a t r h) s.heap.size) s.heap s.heap [] := va_S.rf
  have hl := lv_entry ([.ref (A 0), .int v1, .int v2, .int v3]) (n := 5) (Nat.le_of_ble_eq_true rfl)
  rw [lg_entry_eq]
  generalize (lg_sl ([.ref (A 0), .int v1, .int v2, .int v3]) ++ List.replicate (5 - (lg_sl ([.ref (A 0), .int v1, .int v2, .int v3])).length) Slot.unset).toArray = ls at hl ⊢
  have hl : lv_has ls 5 [(0, .ref (A 0)), (1, .int v1), (2, .int v2), (3, .int v3)] := hl
  have hf26 := hts (.fieldLink RX5 26 "PhaseConverterModel" "thrown" "I") (List.mem_of_getElem? (i := 2) rfl)
  have hf62 := hts (.fieldLink RX5 62 "PhaseConverterModel" "strongest" "I") (List.mem_of_getElem? (i := 6) rfl)
  have hf69 := hts (.fieldLink RX5 69 "PhaseConverterModel" "least" "I") (List.mem_of_getElem? (i := 4) rfl)
  have hf7 := hts (.fieldLink RX5 7 "PhaseConverterModel" "z" "[I") (List.mem_of_getElem? (i := 3) rfl)
  have hf72 := hts (.fieldLink RX5 72 "PhaseConverterModel" "most" "I") (List.mem_of_getElem? (i := 5) rfl)
  have hiX5 : ∀ w ∈ u_ws RX5 TX5 15, w ∈ wsX5_ifLoaded := memIn [82, 83, 84, 85, 86, 87, 88, 89, 90, 91, 92, 93, 94, 95, 96] rfl
  refine lv_aload_n hx hb dX5_ifLoaded_0 rfl (lv_at hl 0 rfl) ?_
  refine lv_iload_n hx hb dX5_ifLoaded_1 rfl (lv_at hl 1 rfl) ?_
  refine lv_iconst (v := 0) hx hb dX5_ifLoaded_2 (by decide) ?_
  refine lv_ldc (own := RX5) (v := 60000) hx hb hown (hts (.constant RX5 30 (60000)) (List.mem_of_getElem? (i := 1) rfl)) dX5_ifLoaded_3 ?_
  refine gsPi (As := [.int v1, .int 0, .int 60000]) (rest := [.ref (A 0)]) ⟨hx, hb, hml, hown, hts⟩ (c_X5_within l E v1 0 60000) (va_cwS 3 hts gX5_ifLoaded_X5_within rfl rfl rfl (by decide +kernel) ⟨Nat.le_of_ble_eq_true rfl, Nat.le_of_ble_eq_true rfl⟩) hP hK hD hN hS hA rfl hl.1 rfl (Nat.le_of_ble_eq_true rfl) dX5_ifLoaded_5 ⟨Nat.le_refl _, Nat.le_refl _⟩ (fun H locs hP hD hS => ?_)
  refine lv_if_eq (tgt := 34) hx hb dX5_ifLoaded_8 (by decide) (fun c_8 => ?_) (fun c_8 => ?_)
  · refine lv_iconst (v := 1) hx hb dX5_ifLoaded_34 (by decide) ?_
    refine va_put (D := E.1) (ci := 5) (v := .int 1) (ty := .int) (C := RX5) (T := TX5) (N := 15) hx hb hts hiX5 tyX5 tyX5_ok nmX5 hown hK hP hD hS 0 rfl rfl 0 (by decide) hf26 (fun _ h9 => h9) rfl (by decide +kernel) rfl rfl (Nat.le_of_ble_eq_true rfl) dX5_ifLoaded_35 (fun H locs hP hD hS => ?_)
    have hP : va_P E.1 vwCl (wM E A (upd G 0 1) z a t r h) H := hP
    have hD : va_D _ (wM E A (upd G 0 1) z a t r h) := hD
    refine lv_aload_n hx hb dX5_ifLoaded_38 rfl (lv_at hl 0 rfl) ?_
    refine va_get (D := E.1) (ci := 5) (v := .int 1) (C := RX5) (T := TX5) (N := 15) hx hb hts hiX5 hown hK hP 0 rfl rfl 0 (by decide) hf26 (fun _ h9 => h9) rfl dX5_ifLoaded_39 ?_
    refine lv_if_le (tgt := 47) hx hb dX5_ifLoaded_42 (by decide) (fun c_42 => absurd c_42 (by decide)) (fun c_42 => ?_)
    refine lv_iconst (v := 0) hx hb dX5_ifLoaded_45 (by decide) ?_
    exact greti hx hb hr hlocks hP hD hS (by simp only [ilR, if_pos c_8, if_neg c_42]) (by simp only [ilG, ilS, if_pos c_8, if_neg c_42]) dX5_ifLoaded_46
  · refine lv_iload_n hx hb dX5_ifLoaded_11 rfl (lv_at hl 2 rfl) ?_
    refine lv_iconst (v := 1) hx hb dX5_ifLoaded_12 (by decide) ?_
    refine lv_bipush (v := 100) hx hb dX5_ifLoaded_13 (by decide) ?_
    refine gsPi (As := [.int v2, .int 1, .int 100]) (rest := [.ref (A 0)]) ⟨hx, hb, hml, hown, hts⟩ (c_X5_within l E v2 1 100) (va_cwS 3 hts gX5_ifLoaded_X5_within rfl rfl rfl (by decide +kernel) ⟨Nat.le_of_ble_eq_true rfl, Nat.le_of_ble_eq_true rfl⟩) hP hK hD hN hS hA rfl hl.1 rfl (Nat.le_of_ble_eq_true rfl) dX5_ifLoaded_15 ⟨Nat.le_refl _, Nat.le_refl _⟩ (fun H locs hP hD hS => ?_)
    refine lv_if_eq (tgt := 34) hx hb dX5_ifLoaded_18 (by decide) (fun c_18 => ?_) (fun c_18 => ?_)
    · refine lv_iconst (v := 1) hx hb dX5_ifLoaded_34 (by decide) ?_
      refine va_put (D := E.1) (ci := 5) (v := .int 1) (ty := .int) (C := RX5) (T := TX5) (N := 15) hx hb hts hiX5 tyX5 tyX5_ok nmX5 hown hK hP hD hS 0 rfl rfl 0 (by decide) hf26 (fun _ h9 => h9) rfl (by decide +kernel) rfl rfl (Nat.le_of_ble_eq_true rfl) dX5_ifLoaded_35 (fun H locs hP hD hS => ?_)
      have hP : va_P E.1 vwCl (wM E A (upd G 0 1) z a t r h) H := hP
      have hD : va_D _ (wM E A (upd G 0 1) z a t r h) := hD
      refine lv_aload_n hx hb dX5_ifLoaded_38 rfl (lv_at hl 0 rfl) ?_
      refine va_get (D := E.1) (ci := 5) (v := .int 1) (C := RX5) (T := TX5) (N := 15) hx hb hts hiX5 hown hK hP 0 rfl rfl 0 (by decide) hf26 (fun _ h9 => h9) rfl dX5_ifLoaded_39 ?_
      refine lv_if_le (tgt := 47) hx hb dX5_ifLoaded_42 (by decide) (fun c_42 => absurd c_42 (by decide)) (fun c_42 => ?_)
      refine lv_iconst (v := 0) hx hb dX5_ifLoaded_45 (by decide) ?_
      exact greti hx hb hr hlocks hP hD hS (by simp only [ilR, if_neg c_8, if_pos c_18, if_neg c_42]) (by simp only [ilG, ilS, if_neg c_8, if_pos c_18, if_neg c_42]) dX5_ifLoaded_46
    · refine lv_iload_n hx hb dX5_ifLoaded_21 rfl (lv_at hl 3 rfl) ?_
      refine lv_iconst (v := 0) hx hb dX5_ifLoaded_22 (by decide) ?_
      refine lv_iconst (v := 5) hx hb dX5_ifLoaded_23 (by decide) ?_
      refine gsPi (As := [.int v3, .int 0, .int 5]) (rest := [.ref (A 0)]) ⟨hx, hb, hml, hown, hts⟩ (c_X5_within l E v3 0 5) (va_cwS 3 hts gX5_ifLoaded_X5_within rfl rfl rfl (by decide +kernel) ⟨Nat.le_of_ble_eq_true rfl, Nat.le_of_ble_eq_true rfl⟩) hP hK hD hN hS hA rfl hl.1 rfl (Nat.le_of_ble_eq_true rfl) dX5_ifLoaded_24 ⟨Nat.le_refl _, Nat.le_refl _⟩ (fun H locs hP hD hS => ?_)
      refine lv_if_eq (tgt := 34) hx hb dX5_ifLoaded_27 (by decide) (fun c_27 => ?_) (fun c_27 => ?_)
      · refine lv_iconst (v := 1) hx hb dX5_ifLoaded_34 (by decide) ?_
        refine va_put (D := E.1) (ci := 5) (v := .int 1) (ty := .int) (C := RX5) (T := TX5) (N := 15) hx hb hts hiX5 tyX5 tyX5_ok nmX5 hown hK hP hD hS 0 rfl rfl 0 (by decide) hf26 (fun _ h9 => h9) rfl (by decide +kernel) rfl rfl (Nat.le_of_ble_eq_true rfl) dX5_ifLoaded_35 (fun H locs hP hD hS => ?_)
        have hP : va_P E.1 vwCl (wM E A (upd G 0 1) z a t r h) H := hP
        have hD : va_D _ (wM E A (upd G 0 1) z a t r h) := hD
        refine lv_aload_n hx hb dX5_ifLoaded_38 rfl (lv_at hl 0 rfl) ?_
        refine va_get (D := E.1) (ci := 5) (v := .int 1) (C := RX5) (T := TX5) (N := 15) hx hb hts hiX5 hown hK hP 0 rfl rfl 0 (by decide) hf26 (fun _ h9 => h9) rfl dX5_ifLoaded_39 ?_
        refine lv_if_le (tgt := 47) hx hb dX5_ifLoaded_42 (by decide) (fun c_42 => absurd c_42 (by decide)) (fun c_42 => ?_)
        refine lv_iconst (v := 0) hx hb dX5_ifLoaded_45 (by decide) ?_
        exact greti hx hb hr hlocks hP hD hS (by simp only [ilR, if_neg c_8, if_neg c_18, if_pos c_27, if_neg c_42]) (by simp only [ilG, ilS, if_neg c_8, if_neg c_18, if_pos c_27, if_neg c_42]) dX5_ifLoaded_46
      · have hvv : nI v2.toNatClampNeg = v2 := (inRg_ix1 (n := 100) rfl c_18).1
        have hvl : v2.toNatClampNeg ≤ 100 := (inRg_ix1 (n := 100) rfl c_18).2.1
        refine lv_iconst (v := 0) hx hb dX5_ifLoaded_30 (by decide) ?_
        refine lv_goto (tgt := 35) hx hb dX5_ifLoaded_31 (by decide) ?_
        refine va_put (D := E.1) (ci := 5) (v := .int 0) (ty := .int) (C := RX5) (T := TX5) (N := 15) hx hb hts hiX5 tyX5 tyX5_ok nmX5 hown hK hP hD hS 0 rfl rfl 0 (by decide) hf26 (fun _ h9 => h9) rfl (by decide +kernel) rfl rfl (Nat.le_of_ble_eq_true rfl) dX5_ifLoaded_35 (fun H locs hP hD hS => ?_)
        have hP : va_P E.1 vwCl (wM E A (upd G 0 0) z a t r h) H := hP
        have hD : va_D _ (wM E A (upd G 0 0) z a t r h) := hD
        refine lv_aload_n hx hb dX5_ifLoaded_38 rfl (lv_at hl 0 rfl) ?_
        refine va_get (D := E.1) (ci := 5) (v := .int 0) (C := RX5) (T := TX5) (N := 15) hx hb hts hiX5 hown hK hP 0 rfl rfl 0 (by decide) hf26 (fun _ h9 => h9) rfl dX5_ifLoaded_39 ?_
        refine lv_if_le (tgt := 47) hx hb dX5_ifLoaded_42 (by decide) (fun c_42 => ?_) (fun c_42 => absurd (by decide) c_42)
        refine lv_aload_n hx hb dX5_ifLoaded_47 rfl (lv_at hl 0 rfl) ?_
        refine gv0v (As := []) (rest := []) ⟨hx, hb, hml, hown, hts⟩ (c_X5_keep l E A (upd G 0 0) z a t r h) (cwV 0 hts gX5_ifLoaded_X5_keep rfl rfl rfl (by decide +kernel) ⟨Nat.le_of_ble_eq_true rfl, Nat.le_of_ble_eq_true rfl⟩) (va_recv hK hP (ci := 5) (q0 := 0) rfl rfl) hP hK hD hN hS hA rfl hl.1 rfl (Nat.le_of_ble_eq_true rfl) dX5_ifLoaded_48 ⟨Nat.le_refl _, Nat.le_refl _⟩ (fun H locs hP hD hS => ?_)
        have hP : va_P E.1 vwCl (wM E A (layE (upd G 0 0)) z (kpL z 159 0 a) t r h) H := hP
        have hD : va_D _ (wM E A (layE (upd G 0 0)) z (kpL z 159 0 a) t r h) := hD
        refine lv_aload_n hx hb dX5_ifLoaded_51 rfl (lv_at hl 0 rfl) ?_
        refine va_get (D := E.1) (ci := 5) (v := .ref (A 1)) (C := RX5) (T := TX5) (N := 15) hx hb hts hiX5 hown hK hP 0 rfl rfl 1 (by decide) hf7 (fun _ h9 => h9) rfl dX5_ifLoaded_52 ?_
        refine lv_iconst (v := 2) hx hb dX5_ifLoaded_55 (by decide) ?_
        refine lv_iload_n hx hb dX5_ifLoaded_56 rfl (lv_at hl 1 rfl) ?_
        refine gast hx hb hK hP hD hS 1 rfl 2 (rfl) (by decide) (by decide) dX5_ifLoaded_57 (fun H locs hP hD hS => ?_)
        have hP : va_P E.1 vwCl (wM E A (layE (upd G 0 0)) (upd z 2 v1) (kpL z 159 0 a) t r h) H := hP
        have hD : va_D _ (wM E A (layE (upd G 0 0)) (upd z 2 v1) (kpL z 159 0 a) t r h) := hD
        refine lv_iconst (v := 0) hx hb dX5_ifLoaded_58 (by decide) ?_
        refine lv_istore (lv' := [(4, .int 0), (0, .ref (A 0)), (1, .int v1), (2, .int v2), (3, .int v3)]) hx hb dX5_ifLoaded_59 hl (by decide) rfl (fun ls hl => ?_)
        have L_61 : ∀ (n i : Nat) (z1 : Nat → Int32) (G1 : Nat → Int32) (H : Heap) (locs : List Loc) (ls : Array Slot), (i + n = v2.toNatClampNeg) → (zOK z1) → (∀ k, 159 ≤ k → z1 k = z k) → (runL n z1 G1 = runL v2.toNatClampNeg (upd z 2 v1) (layE (upd G 0 0))) → va_P E.1 vwCl (wM E A G1 z1 (kpL z 159 0 a) t r h) H → va_D (va_A (wM E A G z a t r h) s.heap.size) (wM E A G1 z1 (kpL z 159 0 a) t r h) → va_S (va_A (wM E A G z a t r h) s.heap.size) s.heap H locs → lv_has ls 5 [(4, .int (nI i)), (0, .ref (A 0)), (1, .int v1), (2, .int v2), (3, .int v3)] → W p l e (gR wsX5_ifLoaded 5 118) s m ([.ref (A 0), .int v1, .int v2, .int v3] : List Value).toArray below meth c H locs 0 0 (gMQ below E s (wM E A G z a t r h) (wM E A (ilG v1 v2 v3 z G) z (ilS v1 v2 v3 z a) t r h) (some (.int (ilR v1 v2 v3 z G))) [.ref (A 0), .int v1, .int v2, .int v3]) (F0 m 61 ls []) := by
          intro n
          induction n with
          | zero =>
            intro i z1 G1 H locs ls hin h1 hge hfn hP hD hS hl
            have hf : (z1, G1) = ilU v1 v2 z G := hfn
            have htb : kpL (kpL z 159 0 a) 159 0 z1 = z := tb_eq hge
            refine lv_iload hx hb dX5_ifLoaded_61 (lv_at hl 0 rfl) ?_
            refine lv_iload_n hx hb dX5_ifLoaded_63 rfl (lv_at hl 3 rfl) ?_
            refine lv_icmp_ge (tgt := 77) hx hb dX5_ifLoaded_64 (by decide) (fun c_64 => ?_) (fun c_64 => absurd (by rw [← hvv]; exact nI_le (by omega) (by omega)) c_64)
            refine lv_iload_n hx hb dX5_ifLoaded_77 rfl (lv_at hl 4 rfl) ?_
            obtain ⟨x_1, ex_1⟩ : ∃ y : Int32, y = (if v3 = 0 then z1 17 else (if v3 = 1 then G1 5 else (if v3 = 2 then G1 6 else (if v3 = 3 then z1 20 else (if v3 = 4 then z1 16 else G1 7))))) := ⟨_, rfl⟩
            have fx : x_1 = ilA v3 (z1, G1) := ex_1
            have J_78 : ∀ (H : Heap) (locs : List Loc) (ls : Array Slot), va_P E.1 vwCl (wM E A G1 z1 (kpL z 159 0 a) t r h) H → va_D (va_A (wM E A G z a t r h) s.heap.size) (wM E A G1 z1 (kpL z 159 0 a) t r h) → va_S (va_A (wM E A G z a t r h) s.heap.size) s.heap H locs → lv_has ls 5 [(4, .int (nI i)), (0, .ref (A 0)), (1, .int v1), (2, .int v2), (3, .int v3)] → W p l e (gR wsX5_ifLoaded 5 118) s m ([.ref (A 0), .int v1, .int v2, .int v3] : List Value).toArray below meth c H locs 0 0 (gMQ below E s (wM E A G z a t r h) (wM E A (ilG v1 v2 v3 z G) z (ilS v1 v2 v3 z a) t r h) (some (.int (ilR v1 v2 v3 z G))) [.ref (A 0), .int v1, .int v2, .int v3]) (F0 m 149 ls [.int x_1]) := by
              intro H locs ls hP hD hS hl
              refine lv_istore (lv' := [(4, .int x_1), (0, .ref (A 0)), (1, .int v1), (2, .int v2), (3, .int v3)]) hx hb dX5_ifLoaded_149 hl (by decide) rfl (fun ls hl => ?_)
              refine lv_aload_n hx hb dX5_ifLoaded_151 rfl (lv_at hl 1 rfl) ?_
              refine gv0v (As := []) (rest := []) ⟨hx, hb, hml, hown, hts⟩ (c_X5_takeBack l E A G1 z1 (kpL z 159 0 a) t r h) (cwV 0 hts gX5_ifLoaded_X5_takeBack rfl rfl rfl (by decide +kernel) ⟨Nat.le_of_ble_eq_true rfl, Nat.le_of_ble_eq_true rfl⟩) (va_recv hK hP (ci := 5) (q0 := 0) rfl rfl) hP hK hD hN hS hA rfl hl.1 rfl (Nat.le_of_ble_eq_true rfl) dX5_ifLoaded_152 ⟨Nat.le_refl _, Nat.le_refl _⟩ (fun H locs hP hD hS => ?_)
              have hP : va_P E.1 vwCl (wM E A G1 (kpL (kpL z 159 0 a) 159 0 z1) (kpL z 159 0 a) t r h) H := hP
              have hD : va_D _ (wM E A G1 (kpL (kpL z 159 0 a) 159 0 z1) (kpL z 159 0 a) t r h) := hD
              refine lv_iload hx hb dX5_ifLoaded_155 (lv_at hl 0 rfl) ?_
              exact greti hx hb hr hlocks hP hD hS (by simp only [ilR, if_neg c_8, if_neg c_18, if_neg c_27, ← hf]; exact fx) (by rw [htb]; simp only [ilG, ilS, if_neg c_8, if_neg c_18, if_neg c_27, ← hf]) dX5_ifLoaded_157
            refine lv_if_ne (tgt := 91) hx hb dX5_ifLoaded_78 (by decide) (fun c_78 => ?_) (fun c_78 => ?_)
            · refine lv_iload_n hx hb dX5_ifLoaded_91 rfl (lv_at hl 4 rfl) ?_
              refine lv_iconst (v := 1) hx hb dX5_ifLoaded_92 (by decide) ?_
              refine lv_icmp_ne (tgt := 103) hx hb dX5_ifLoaded_93 (by decide) (fun c_93 => ?_) (fun c_93 => ?_)
              · refine lv_iload_n hx hb dX5_ifLoaded_103 rfl (lv_at hl 4 rfl) ?_
                refine lv_iconst (v := 2) hx hb dX5_ifLoaded_104 (by decide) ?_
                refine lv_icmp_ne (tgt := 115) hx hb dX5_ifLoaded_105 (by decide) (fun c_105 => ?_) (fun c_105 => ?_)
                · refine lv_iload_n hx hb dX5_ifLoaded_115 rfl (lv_at hl 4 rfl) ?_
                  refine lv_iconst (v := 3) hx hb dX5_ifLoaded_116 (by decide) ?_
                  refine lv_icmp_ne (tgt := 130) hx hb dX5_ifLoaded_117 (by decide) (fun c_117 => ?_) (fun c_117 => ?_)
                  · refine lv_iload_n hx hb dX5_ifLoaded_130 rfl (lv_at hl 4 rfl) ?_
                    refine lv_iconst (v := 4) hx hb dX5_ifLoaded_131 (by decide) ?_
                    refine lv_icmp_ne (tgt := 145) hx hb dX5_ifLoaded_132 (by decide) (fun c_132 => ?_) (fun c_132 => ?_)
                    · refine lv_aload_n hx hb dX5_ifLoaded_145 rfl (lv_at hl 1 rfl) ?_
                      refine va_get (D := E.1) (ci := 5) (v := .int (G1 7)) (C := RX5) (T := TX5) (N := 15) hx hb hts hiX5 hown hK hP 0 rfl rfl 7 (by decide) hf62 (fun _ h9 => h9) rfl dX5_ifLoaded_146 ?_
                      refine W.eq (g2 := F0 m 149 ls [.int x_1]) (by rw [ex_1]; simp only [if_neg c_78, if_neg c_93, if_neg c_105, if_neg c_117, if_neg c_132]) ?_
                      exact J_78 H locs ls (hP) (hD) hS (lv_sub hl [0, 1, 2, 3, 4] rfl)
                    · refine lv_aload_n hx hb dX5_ifLoaded_135 rfl (lv_at hl 1 rfl) ?_
                      refine va_get (D := E.1) (ci := 5) (v := .ref (A 1)) (C := RX5) (T := TX5) (N := 15) hx hb hts hiX5 hown hK hP 0 rfl rfl 1 (by decide) hf7 (fun _ h9 => h9) rfl dX5_ifLoaded_136 ?_
                      refine lv_bipush (v := 16) hx hb dX5_ifLoaded_139 (by decide) ?_
                      refine gald (x := z1 16) hx hb hK hP 1 rfl 16 (rfl) (by decide) (by decide) rfl dX5_ifLoaded_141 ?_
                      refine lv_goto (tgt := 149) hx hb dX5_ifLoaded_142 (by decide) ?_
                      refine W.eq (g2 := F0 m 149 ls [.int x_1]) (by rw [ex_1]; simp only [if_neg c_78, if_neg c_93, if_neg c_105, if_neg c_117, if_pos c_132]) ?_
                      exact J_78 H locs ls (hP) (hD) hS (lv_sub hl [0, 1, 2, 3, 4] rfl)
                  · refine lv_aload_n hx hb dX5_ifLoaded_120 rfl (lv_at hl 1 rfl) ?_
                    refine va_get (D := E.1) (ci := 5) (v := .ref (A 1)) (C := RX5) (T := TX5) (N := 15) hx hb hts hiX5 hown hK hP 0 rfl rfl 1 (by decide) hf7 (fun _ h9 => h9) rfl dX5_ifLoaded_121 ?_
                    refine lv_bipush (v := 20) hx hb dX5_ifLoaded_124 (by decide) ?_
                    refine gald (x := z1 20) hx hb hK hP 1 rfl 20 (rfl) (by decide) (by decide) rfl dX5_ifLoaded_126 ?_
                    refine lv_goto (tgt := 149) hx hb dX5_ifLoaded_127 (by decide) ?_
                    refine W.eq (g2 := F0 m 149 ls [.int x_1]) (by rw [ex_1]; simp only [if_neg c_78, if_neg c_93, if_neg c_105, if_pos c_117]) ?_
                    exact J_78 H locs ls (hP) (hD) hS (lv_sub hl [0, 1, 2, 3, 4] rfl)
                · refine lv_aload_n hx hb dX5_ifLoaded_108 rfl (lv_at hl 1 rfl) ?_
                  refine va_get (D := E.1) (ci := 5) (v := .int (G1 6)) (C := RX5) (T := TX5) (N := 15) hx hb hts hiX5 hown hK hP 0 rfl rfl 6 (by decide) hf72 (fun _ h9 => h9) rfl dX5_ifLoaded_109 ?_
                  refine lv_goto (tgt := 149) hx hb dX5_ifLoaded_112 (by decide) ?_
                  refine W.eq (g2 := F0 m 149 ls [.int x_1]) (by rw [ex_1]; simp only [if_neg c_78, if_neg c_93, if_pos c_105]) ?_
                  exact J_78 H locs ls (hP) (hD) hS (lv_sub hl [0, 1, 2, 3, 4] rfl)
              · refine lv_aload_n hx hb dX5_ifLoaded_96 rfl (lv_at hl 1 rfl) ?_
                refine va_get (D := E.1) (ci := 5) (v := .int (G1 5)) (C := RX5) (T := TX5) (N := 15) hx hb hts hiX5 hown hK hP 0 rfl rfl 5 (by decide) hf69 (fun _ h9 => h9) rfl dX5_ifLoaded_97 ?_
                refine lv_goto (tgt := 149) hx hb dX5_ifLoaded_100 (by decide) ?_
                refine W.eq (g2 := F0 m 149 ls [.int x_1]) (by rw [ex_1]; simp only [if_neg c_78, if_pos c_93]) ?_
                exact J_78 H locs ls (hP) (hD) hS (lv_sub hl [0, 1, 2, 3, 4] rfl)
            · refine lv_aload_n hx hb dX5_ifLoaded_81 rfl (lv_at hl 1 rfl) ?_
              refine va_get (D := E.1) (ci := 5) (v := .ref (A 1)) (C := RX5) (T := TX5) (N := 15) hx hb hts hiX5 hown hK hP 0 rfl rfl 1 (by decide) hf7 (fun _ h9 => h9) rfl dX5_ifLoaded_82 ?_
              refine lv_bipush (v := 17) hx hb dX5_ifLoaded_85 (by decide) ?_
              refine gald (x := z1 17) hx hb hK hP 1 rfl 17 (rfl) (by decide) (by decide) rfl dX5_ifLoaded_87 ?_
              refine lv_goto (tgt := 149) hx hb dX5_ifLoaded_88 (by decide) ?_
              refine W.eq (g2 := F0 m 149 ls [.int x_1]) (by rw [ex_1]; simp only [if_pos c_78]) ?_
              exact J_78 H locs ls (hP) (hD) hS (lv_sub hl [0, 1, 2, 3, 4] rfl)
          | succ n ih =>
            intro i z1 G1 H locs ls hin h1 hge hfn hP hD hS hl
            refine lv_iload hx hb dX5_ifLoaded_61 (lv_at hl 0 rfl) ?_
            refine lv_iload_n hx hb dX5_ifLoaded_63 rfl (lv_at hl 3 rfl) ?_
            refine lv_icmp_ge (tgt := 77) hx hb dX5_ifLoaded_64 (by decide) (fun c_64 => absurd c_64 (by rw [← hvv]; exact nI_ge (by omega) (by omega))) (fun c_64 => ?_)
            refine lv_aload_n hx hb dX5_ifLoaded_67 rfl (lv_at hl 1 rfl) ?_
            refine gv0v (As := []) (rest := []) ⟨hx, hb, hml, hown, hts⟩ (c_X5_cycle l E A G1 z1 (kpL z 159 0 a) t r h h1) (cwV 0 hts gX5_ifLoaded_X5_cycle rfl rfl rfl (by decide +kernel) ⟨Nat.le_of_ble_eq_true rfl, Nat.le_of_ble_eq_true rfl⟩) (va_recv hK hP (ci := 5) (q0 := 0) rfl rfl) hP hK hD hN hS hA rfl hl.1 rfl (Nat.le_of_ble_eq_true rfl) dX5_ifLoaded_68 ⟨Nat.le_refl _, Nat.le_refl _⟩ (fun H locs hP hD hS => ?_)
            have hP : va_P E.1 vwCl (wM E A ((cycle z1 G1).2) ((cycle z1 G1).1) (kpL z 159 0 a) t r h) H := hP
            have hD : va_D _ (wM E A ((cycle z1 G1).2) ((cycle z1 G1).1) (kpL z 159 0 a) t r h) := hD
            refine lv_iinc (v := nI (i + 1)) (lv' := [(4, .int (nI (i + 1))), (0, .ref (A 0)), (1, .int v1), (2, .int v2), (3, .int v3)]) hx hb dX5_ifLoaded_71 hl (k := 0) rfl (nI_1 _) (by decide) rfl (fun ls hl => ?_)
            refine lv_goto (tgt := 61) hx hb dX5_ifLoaded_74 (by decide) ?_
            exact ih (i + 1) ((cycle z1 G1).1) ((cycle z1 G1).2) H locs ls (by omega) (cycle_OK h1) (fun k hk => (cycle_ge h1 hk).trans (hge k hk)) (hfn) hP hD hS (lv_sub hl [0, 1, 2, 3, 4] rfl)
        exact L_61 (v2.toNatClampNeg) (0) (upd z 2 v1) (layE (upd G 0 0)) H locs ls (by omega) (upd_OK hz (by omega) (by omega) (by omega) (by omega) (by omega)) (fun k hk => pk_un (by omega)) rfl hP hD hS (lv_sub hl [0, 1, 2, 3, 4] rfl)

set_option maxHeartbeats 4000000 in
set_option maxRecDepth 100000 in
theorem c_X5_settledAt (l : Launch) (E : EE) (A : Nat → Nat) (G z a t r : Nat → Int32) (h : Int64) (v1 : Int32) (hz : zOK z) : GM l yX5_settledAt wsX5_settledAt 5 118 E (wM E A G z a t r h) [.ref (A 0), .int v1] (wM E A ((stU v1 z G).2.2) z (kpL z 159 0 a) t r h) (some (.int (stR v1 z G))) := by
  intro sz
  refine Met.ofW (cc := cX5_settledAt) (maxL := 4) (ret := (some .int)) (by decide) rfl ?_
  intro p e s m args below meth c s₁ B hml hv
  obtain ⟨rfl, rfl, hP, hK, hD0, hN⟩ := hv
  have hx := B.exec
  have hb := B.bytes
  have hr := B.returns
  have hts := atoms_spec (ws := wsX5_settledAt) B.pre
  have hown : s.vm.findClass RX5 = some m.cls := findClass_of_methodNamed B.named
  have hlocks := B.notSynchronized
  have hD := hD0.self (sz := s.heap.size)
  have hA : ∀ q : Nat, s.heap.size ≤ q → va_A (wM E A G z a t r h) s.heap.size q := fun q h => Or.inr h
  have hS : va_S (va_A (wM E A G z a t r h) s.heap.size) s.heap s.heap [] := va_S.rf
  have hl := lv_entry ([.ref (A 0), .int v1]) (n := 4) (Nat.le_of_ble_eq_true rfl)
  rw [lg_entry_eq]
  generalize (lg_sl ([.ref (A 0), .int v1]) ++ List.replicate (4 - (lg_sl ([.ref (A 0), .int v1])).length) Slot.unset).toArray = ls at hl ⊢
  have hl : lv_has ls 4 [(0, .ref (A 0)), (1, .int v1)] := hl
  have hf7 := hts (.fieldLink RX5 7 "PhaseConverterModel" "z" "[I") (List.mem_of_getElem? (i := 1) rfl)
  have hiX5 : ∀ w ∈ u_ws RX5 TX5 15, w ∈ wsX5_settledAt := memIn [80, 81, 82, 83, 84, 85, 86, 87, 88, 89, 90, 91, 92, 93, 94] rfl
  refine lv_aload_n hx hb dX5_settledAt_0 rfl (lv_at hl 0 rfl) ?_
  refine gv0v (As := []) (rest := []) ⟨hx, hb, hml, hown, hts⟩ (c_X5_keep l E A G z a t r h) (cwV 0 hts gX5_settledAt_X5_keep rfl rfl rfl (by decide +kernel) ⟨Nat.le_of_ble_eq_true rfl, Nat.le_of_ble_eq_true rfl⟩) (va_recv hK hP (ci := 5) (q0 := 0) rfl rfl) hP hK hD hN hS hA rfl hl.1 rfl (Nat.le_of_ble_eq_true rfl) dX5_settledAt_1 ⟨Nat.le_refl _, Nat.le_refl _⟩ (fun H locs hP hD hS => ?_)
  have hP : va_P E.1 vwCl (wM E A (layE G) z (kpL z 159 0 a) t r h) H := hP
  have hD : va_D _ (wM E A (layE G) z (kpL z 159 0 a) t r h) := hD
  refine lv_iconst (v := 0) hx hb dX5_settledAt_4 (by decide) ?_
  refine lv_istore_n (lv' := [(2, .int 0), (0, .ref (A 0)), (1, .int v1)]) hx hb dX5_settledAt_5 rfl hl (by decide) rfl (fun ls hl => ?_)
  refine lv_iconst (v := 0) hx hb dX5_settledAt_6 (by decide) ?_
  refine lv_istore_n (lv' := [(3, .int 0), (2, .int 0), (0, .ref (A 0)), (1, .int v1)]) hx hb dX5_settledAt_7 rfl hl (by decide) rfl (fun ls hl => ?_)
  have L_8 : ∀ (n i : Nat) (y2 : Int32) (z1 : Nat → Int32) (G1 : Nat → Int32) (H : Heap) (locs : List Loc) (ls : Array Slot), (i + n = 202) → (zOK z1) → (∀ k, 159 ≤ k → z1 k = z k) → (stL v1 n i y2 z1 G1 = stL v1 202 0 0 z (layE G)) → va_P E.1 vwCl (wM E A G1 z1 (kpL z 159 0 a) t r h) H → va_D (va_A (wM E A G z a t r h) s.heap.size) (wM E A G1 z1 (kpL z 159 0 a) t r h) → va_S (va_A (wM E A G z a t r h) s.heap.size) s.heap H locs → lv_has ls 4 [(3, .int (nI i)), (2, .int y2), (0, .ref (A 0)), (1, .int v1)] → W p l e (gR wsX5_settledAt 5 118) s m ([.ref (A 0), .int v1] : List Value).toArray below meth c H locs 0 0 (gMQ below E s (wM E A G z a t r h) (wM E A ((stU v1 z G).2.2) z (kpL z 159 0 a) t r h) (some (.int (stR v1 z G))) [.ref (A 0), .int v1]) (F0 m 8 ls []) := by
    intro n
    induction n with
    | zero =>
      intro i y2 z1 G1 H locs ls hin h1 hge hfn hP hD hS hl
      have hf : (y2, nI i, G1) = stU v1 z G := hfn
      refine lv_iload_n hx hb dX5_settledAt_8 rfl (lv_at hl 0 rfl) ?_
      refine lv_sipush (v := 202) hx hb dX5_settledAt_9 (by decide) ?_
      refine lv_icmp_ge (tgt := 61) hx hb dX5_settledAt_12 (by decide) (fun c_12 => ?_) (fun c_12 => absurd (nI_le (a := 202) (by omega) (by omega)) c_12)
      refine lv_aload_n hx hb dX5_settledAt_61 rfl (lv_at hl 2 rfl) ?_
      refine gv0v (As := []) (rest := []) ⟨hx, hb, hml, hown, hts⟩ (c_X5_takeBack l E A G1 z1 (kpL z 159 0 a) t r h) (cwV 0 hts gX5_settledAt_X5_takeBack rfl rfl rfl (by decide +kernel) ⟨Nat.le_of_ble_eq_true rfl, Nat.le_of_ble_eq_true rfl⟩) (va_recv hK hP (ci := 5) (q0 := 0) rfl rfl) hP hK hD hN hS hA rfl hl.1 rfl (Nat.le_of_ble_eq_true rfl) dX5_settledAt_62 ⟨Nat.le_refl _, Nat.le_refl _⟩ (fun H locs hP hD hS => ?_)
      have hP : va_P E.1 vwCl (wM E A G1 (kpL (kpL z 159 0 a) 159 0 z1) (kpL z 159 0 a) t r h) H := hP
      have hD : va_D _ (wM E A G1 (kpL (kpL z 159 0 a) 159 0 z1) (kpL z 159 0 a) t r h) := hD
      refine lv_iload_n hx hb dX5_settledAt_65 rfl (lv_at hl 1 rfl) ?_
      refine lv_iconst (v := 3) hx hb dX5_settledAt_66 (by decide) ?_
      refine lv_icmp_ne (tgt := 76) hx hb dX5_settledAt_67 (by decide) (fun c_67 => ?_) (fun c_67 => ?_)
      · refine lv_iconst (v := (-1)) hx hb dX5_settledAt_76 (by decide) ?_
        exact greti hx hb hr hlocks hP hD hS (by simp only [stR, ← hf, if_neg c_67]) (by rw [(tb_eq hge : kpL (kpL z 159 0 a) 159 0 z1 = z), ← hf]) dX5_settledAt_77
      · refine lv_iload_n hx hb dX5_settledAt_70 rfl (lv_at hl 0 rfl) ?_
        refine lv_iconst (v := 2) hx hb dX5_settledAt_71 (by decide) ?_
        refine lv_isub hx hb dX5_settledAt_72 ?_
        refine lv_goto (tgt := 77) hx hb dX5_settledAt_73 (by decide) ?_
        exact greti hx hb hr hlocks hP hD hS (by simp only [stR, ← hf, if_pos c_67]) (by rw [(tb_eq hge : kpL (kpL z 159 0 a) 159 0 z1 = z), ← hf]) dX5_settledAt_77
    | succ n ih =>
      intro i y2 z1 G1 H locs ls hin h1 hge hfn hP hD hS hl
      refine lv_iload_n hx hb dX5_settledAt_8 rfl (lv_at hl 0 rfl) ?_
      refine lv_sipush (v := 202) hx hb dX5_settledAt_9 (by decide) ?_
      refine lv_icmp_ge (tgt := 61) hx hb dX5_settledAt_12 (by decide) (fun c_12 => absurd c_12 (nI_ge (b := 202) (by omega) (by omega))) (fun c_12 => ?_)
      refine lv_iload_n hx hb dX5_settledAt_15 rfl (lv_at hl 1 rfl) ?_
      refine lv_iconst (v := 3) hx hb dX5_settledAt_16 (by decide) ?_
      refine lv_icmp_ge (tgt := 61) hx hb dX5_settledAt_17 (by decide) (fun c_17 => ?_) (fun c_17 => ?_)
      · refine lv_aload_n hx hb dX5_settledAt_61 rfl (lv_at hl 2 rfl) ?_
        refine gv0v (As := []) (rest := []) ⟨hx, hb, hml, hown, hts⟩ (c_X5_takeBack l E A G1 z1 (kpL z 159 0 a) t r h) (cwV 0 hts gX5_settledAt_X5_takeBack rfl rfl rfl (by decide +kernel) ⟨Nat.le_of_ble_eq_true rfl, Nat.le_of_ble_eq_true rfl⟩) (va_recv hK hP (ci := 5) (q0 := 0) rfl rfl) hP hK hD hN hS hA rfl hl.1 rfl (Nat.le_of_ble_eq_true rfl) dX5_settledAt_62 ⟨Nat.le_refl _, Nat.le_refl _⟩ (fun H locs hP hD hS => ?_)
        have hP : va_P E.1 vwCl (wM E A G1 (kpL (kpL z 159 0 a) 159 0 z1) (kpL z 159 0 a) t r h) H := hP
        have hD : va_D _ (wM E A G1 (kpL (kpL z 159 0 a) 159 0 z1) (kpL z 159 0 a) t r h) := hD
        refine lv_iload_n hx hb dX5_settledAt_65 rfl (lv_at hl 1 rfl) ?_
        refine lv_iconst (v := 3) hx hb dX5_settledAt_66 (by decide) ?_
        refine lv_icmp_ne (tgt := 76) hx hb dX5_settledAt_67 (by decide) (fun c_67 => ?_) (fun c_67 => ?_)
        · refine lv_iconst (v := (-1)) hx hb dX5_settledAt_76 (by decide) ?_
          exact greti hx hb hr hlocks hP hD hS (by simp only [stR, ← ((if_pos c_17).symm.trans hfn : (_, _, _) = stU v1 z G), if_neg c_67]) (by rw [(tb_eq hge : kpL (kpL z 159 0 a) 159 0 z1 = z), ← ((if_pos c_17).symm.trans hfn : (_, _, _) = stU v1 z G)]) dX5_settledAt_77
        · refine lv_iload_n hx hb dX5_settledAt_70 rfl (lv_at hl 0 rfl) ?_
          refine lv_iconst (v := 2) hx hb dX5_settledAt_71 (by decide) ?_
          refine lv_isub hx hb dX5_settledAt_72 ?_
          refine lv_goto (tgt := 77) hx hb dX5_settledAt_73 (by decide) ?_
          exact greti hx hb hr hlocks hP hD hS (by simp only [stR, ← ((if_pos c_17).symm.trans hfn : (_, _, _) = stU v1 z G), if_pos c_67]) (by rw [(tb_eq hge : kpL (kpL z 159 0 a) 159 0 z1 = z), ← ((if_pos c_17).symm.trans hfn : (_, _, _) = stU v1 z G)]) dX5_settledAt_77
      · refine lv_aload_n hx hb dX5_settledAt_20 rfl (lv_at hl 2 rfl) ?_
        refine gv0v (As := []) (rest := []) ⟨hx, hb, hml, hown, hts⟩ (c_X5_cycle l E A G1 z1 (kpL z 159 0 a) t r h h1) (cwV 0 hts gX5_settledAt_X5_cycle rfl rfl rfl (by decide +kernel) ⟨Nat.le_of_ble_eq_true rfl, Nat.le_of_ble_eq_true rfl⟩) (va_recv hK hP (ci := 5) (q0 := 0) rfl rfl) hP hK hD hN hS hA rfl hl.1 rfl (Nat.le_of_ble_eq_true rfl) dX5_settledAt_21 ⟨Nat.le_refl _, Nat.le_refl _⟩ (fun H locs hP hD hS => ?_)
        have hP : va_P E.1 vwCl (wM E A ((cycle z1 G1).2) ((cycle z1 G1).1) (kpL z 159 0 a) t r h) H := hP
        have hD : va_D _ (wM E A ((cycle z1 G1).2) ((cycle z1 G1).1) (kpL z 159 0 a) t r h) := hD
        refine lv_iinc (v := nI (i + 1)) (lv' := [(3, .int (nI (i + 1))), (2, .int y2), (0, .ref (A 0)), (1, .int v1)]) hx hb dX5_settledAt_24 hl (k := 0) rfl (nI_1 _) (by decide) rfl (fun ls hl => ?_)
        refine lv_aload_n hx hb dX5_settledAt_27 rfl (lv_at hl 2 rfl) ?_
        refine va_get (D := E.1) (ci := 5) (v := .ref (A 1)) (C := RX5) (T := TX5) (N := 15) hx hb hts hiX5 hown hK hP 0 rfl rfl 1 (by decide) hf7 (fun _ h9 => h9) rfl dX5_settledAt_28 ?_
        refine lv_bipush (v := 17) hx hb dX5_settledAt_31 (by decide) ?_
        refine gald (x := ((cycle z1 G1).1) 17) hx hb hK hP 1 rfl 17 (rfl) (by decide) (by decide) rfl dX5_settledAt_33 ?_
        refine lv_aload_n hx hb dX5_settledAt_34 rfl (lv_at hl 2 rfl) ?_
        refine va_get (D := E.1) (ci := 5) (v := .ref (A 1)) (C := RX5) (T := TX5) (N := 15) hx hb hts hiX5 hown hK hP 0 rfl rfl 1 (by decide) hf7 (fun _ h9 => h9) rfl dX5_settledAt_35 ?_
        refine lv_iconst (v := 1) hx hb dX5_settledAt_38 (by decide) ?_
        refine gald (x := ((cycle z1 G1).1) 1) hx hb hK hP 1 rfl 1 (rfl) (by decide) (by decide) rfl dX5_settledAt_39 ?_
        refine lv_isub hx hb dX5_settledAt_40 ?_
        refine lv_iload_n hx hb dX5_settledAt_41 rfl (lv_at hl 3 rfl) ?_
        refine lv_ineg hx hb dX5_settledAt_42 ?_
        refine lv_iload_n hx hb dX5_settledAt_43 rfl (lv_at hl 3 rfl) ?_
        refine gsPi (As := [.int ((((cycle z1 G1).1) 17) - (((cycle z1 G1).1) 1)), .int (-v1), .int v1]) (rest := []) ⟨hx, hb, hml, hown, hts⟩ (c_X5_within l E ((((cycle z1 G1).1) 17) - (((cycle z1 G1).1) 1)) (-v1) v1) (va_cwS 3 hts gX5_settledAt_X5_within rfl rfl rfl (by decide +kernel) ⟨Nat.le_of_ble_eq_true rfl, Nat.le_of_ble_eq_true rfl⟩) hP hK hD hN hS hA rfl hl.1 rfl (Nat.le_of_ble_eq_true rfl) dX5_settledAt_44 ⟨Nat.le_refl _, Nat.le_refl _⟩ (fun H locs hP hD hS => ?_)
        obtain ⟨x_1, ex_1⟩ : ∃ y : Int32, y = (if (inRg ((((cycle z1 G1).1) 17) - (((cycle z1 G1).1) 1)) (-v1) v1) = 0 then 0 else y2 + 1) := ⟨_, rfl⟩
        have fx : x_1 = stI v1 y2 z1 G1 := ex_1
        have J_47 : ∀ (H : Heap) (locs : List Loc) (ls : Array Slot), va_P E.1 vwCl (wM E A ((cycle z1 G1).2) ((cycle z1 G1).1) (kpL z 159 0 a) t r h) H → va_D (va_A (wM E A G z a t r h) s.heap.size) (wM E A ((cycle z1 G1).2) ((cycle z1 G1).1) (kpL z 159 0 a) t r h) → va_S (va_A (wM E A G z a t r h) s.heap.size) s.heap H locs → lv_has ls 4 [(3, .int (nI (i + 1))), (2, .int y2), (0, .ref (A 0)), (1, .int v1)] → W p l e (gR wsX5_settledAt 5 118) s m ([.ref (A 0), .int v1] : List Value).toArray below meth c H locs 0 0 (gMQ below E s (wM E A G z a t r h) (wM E A ((stU v1 z G).2.2) z (kpL z 159 0 a) t r h) (some (.int (stR v1 z G))) [.ref (A 0), .int v1]) (F0 m 57 ls [.int x_1]) := by
          intro H locs ls hP hD hS hl
          refine lv_istore_n (lv' := [(2, .int x_1), (3, .int (nI (i + 1))), (0, .ref (A 0)), (1, .int v1)]) hx hb dX5_settledAt_57 rfl hl (by decide) rfl (fun ls hl => ?_)
          refine lv_goto (tgt := 8) hx hb dX5_settledAt_58 (by decide) ?_
          exact ih (i + 1) x_1 ((cycle z1 G1).1) ((cycle z1 G1).2) H locs ls (by omega) (cycle_OK h1) (fun k hk => (cycle_ge h1 hk).trans (hge k hk)) (by rw [fx]; exact (if_neg c_17).symm.trans hfn) hP hD hS (lv_sub hl [1, 0, 2, 3] rfl)
        refine lv_if_eq (tgt := 56) hx hb dX5_settledAt_47 (by decide) (fun c_47 => ?_) (fun c_47 => ?_)
        · refine lv_iconst (v := 0) hx hb dX5_settledAt_56 (by decide) ?_
          refine W.eq (g2 := F0 m 57 ls [.int x_1]) (by rw [ex_1]; simp only [if_pos c_47]) ?_
          exact J_47 H locs ls (hP) (hD) hS (lv_sub hl [0, 1, 2, 3] rfl)
        · refine lv_iload_n hx hb dX5_settledAt_50 rfl (lv_at hl 1 rfl) ?_
          refine lv_iconst (v := 1) hx hb dX5_settledAt_51 (by decide) ?_
          refine lv_iadd hx hb dX5_settledAt_52 ?_
          refine lv_goto (tgt := 57) hx hb dX5_settledAt_53 (by decide) ?_
          refine W.eq (g2 := F0 m 57 ls [.int x_1]) (by rw [ex_1]; simp only [if_neg c_47]) ?_
          exact J_47 H locs ls (hP) (hD) hS (lv_sub hl [0, 1, 2, 3] rfl)
  exact L_8 (202) (0) 0 z (layE G) H locs ls (by omega) (hz) (fun k hk => rfl) rfl hP hD hS (lv_sub hl [0, 1, 2, 3] rfl)

set_option maxHeartbeats 4000000 in
set_option maxRecDepth 100000 in
theorem c_X5_settles (l : Launch) (E : EE) (A : Nat → Nat) (G z a t r : Nat → Int32) (h : Int64) (v1 : Int32) (hz : zOK z) : GM l yX5_settles wsX5_settles 6 141 E (wM E A G z a t r h) [.ref (A 0), .int v1] (wM E A (if inRg v1 0 5000 = 0 then upd G 0 1 else (stU v1 z (upd G 0 0)).2.2) z (if inRg v1 0 5000 = 0 then a else kpL z 159 0 a) t r h) (some (.int (if inRg v1 0 5000 = 0 then 0 else stR v1 z (upd G 0 0)))) := by
  intro sz
  refine Met.ofW (cc := cX5_settles) (maxL := 2) (ret := (some .int)) (by decide) rfl ?_
  intro p e s m args below meth c s₁ B hml hv
  obtain ⟨rfl, rfl, hP, hK, hD0, hN⟩ := hv
  have hx := B.exec
  have hb := B.bytes
  have hr := B.returns
  have hts := atoms_spec (ws := wsX5_settles) B.pre
  have hown : s.vm.findClass RX5 = some m.cls := findClass_of_methodNamed B.named
  have hlocks := B.notSynchronized
  have hD := hD0.self (sz := s.heap.size)
  have hA : ∀ q : Nat, s.heap.size ≤ q → va_A (wM E A G z a t r h) s.heap.size q := fun q h => Or.inr h
  have hS : va_S (va_A (wM E A G z a t r h) s.heap.size) s.heap s.heap [] := va_S.rf
  have hl := lv_entry ([.ref (A 0), .int v1]) (n := 2) (Nat.le_of_ble_eq_true rfl)
  rw [lg_entry_eq]
  generalize (lg_sl ([.ref (A 0), .int v1]) ++ List.replicate (2 - (lg_sl ([.ref (A 0), .int v1])).length) Slot.unset).toArray = ls at hl ⊢
  have hl : lv_has ls 2 [(0, .ref (A 0)), (1, .int v1)] := hl
  have hf26 := hts (.fieldLink RX5 26 "PhaseConverterModel" "thrown" "I") (List.mem_of_getElem? (i := 1) rfl)
  have hiX5 : ∀ w ∈ u_ws RX5 TX5 15, w ∈ wsX5_settles := memIn [85, 86, 87, 88, 89, 90, 91, 92, 93, 94, 95, 96, 97, 98, 99] rfl
  refine lv_aload_n hx hb dX5_settles_0 rfl (lv_at hl 0 rfl) ?_
  refine lv_iload_n hx hb dX5_settles_1 rfl (lv_at hl 1 rfl) ?_
  refine lv_iconst (v := 0) hx hb dX5_settles_2 (by decide) ?_
  refine lv_sipush (v := 5000) hx hb dX5_settles_3 (by decide) ?_
  refine gsPi (As := [.int v1, .int 0, .int 5000]) (rest := [.ref (A 0)]) ⟨hx, hb, hml, hown, hts⟩ (c_X5_within l E v1 0 5000) (va_cwS 3 hts gX5_settles_X5_within rfl rfl rfl (by decide +kernel) ⟨Nat.le_of_ble_eq_true rfl, Nat.le_of_ble_eq_true rfl⟩) hP hK hD hN hS hA rfl hl.1 rfl (Nat.le_of_ble_eq_true rfl) dX5_settles_6 ⟨Nat.le_refl _, Nat.le_refl _⟩ (fun H locs hP hD hS => ?_)
  refine lv_if_eq (tgt := 16) hx hb dX5_settles_9 (by decide) (fun c_9 => ?_) (fun c_9 => ?_)
  · refine lv_iconst (v := 1) hx hb dX5_settles_16 (by decide) ?_
    refine va_put (D := E.1) (ci := 5) (v := .int 1) (ty := .int) (C := RX5) (T := TX5) (N := 15) hx hb hts hiX5 tyX5 tyX5_ok nmX5 hown hK hP hD hS 0 rfl rfl 0 (by decide) hf26 (fun _ h9 => h9) rfl (by decide +kernel) rfl rfl (Nat.le_of_ble_eq_true rfl) dX5_settles_17 (fun H locs hP hD hS => ?_)
    have hP : va_P E.1 vwCl (wM E A (upd G 0 1) z a t r h) H := hP
    have hD : va_D _ (wM E A (upd G 0 1) z a t r h) := hD
    refine lv_aload_n hx hb dX5_settles_20 rfl (lv_at hl 0 rfl) ?_
    refine va_get (D := E.1) (ci := 5) (v := .int 1) (C := RX5) (T := TX5) (N := 15) hx hb hts hiX5 hown hK hP 0 rfl rfl 0 (by decide) hf26 (fun _ h9 => h9) rfl dX5_settles_21 ?_
    refine lv_if_le (tgt := 31) hx hb dX5_settles_24 (by decide) (fun c_24 => absurd c_24 (by decide)) (fun c_24 => ?_)
    refine lv_iconst (v := 0) hx hb dX5_settles_27 (by decide) ?_
    refine lv_goto (tgt := 36) hx hb dX5_settles_28 (by decide) ?_
    exact greti hx hb hr hlocks hP hD hS (by simp only [if_pos c_9, if_neg c_24]) (by simp only [if_pos c_9, if_neg c_24]) dX5_settles_36
  · refine lv_iconst (v := 0) hx hb dX5_settles_12 (by decide) ?_
    refine lv_goto (tgt := 17) hx hb dX5_settles_13 (by decide) ?_
    refine va_put (D := E.1) (ci := 5) (v := .int 0) (ty := .int) (C := RX5) (T := TX5) (N := 15) hx hb hts hiX5 tyX5 tyX5_ok nmX5 hown hK hP hD hS 0 rfl rfl 0 (by decide) hf26 (fun _ h9 => h9) rfl (by decide +kernel) rfl rfl (Nat.le_of_ble_eq_true rfl) dX5_settles_17 (fun H locs hP hD hS => ?_)
    have hP : va_P E.1 vwCl (wM E A (upd G 0 0) z a t r h) H := hP
    have hD : va_D _ (wM E A (upd G 0 0) z a t r h) := hD
    refine lv_aload_n hx hb dX5_settles_20 rfl (lv_at hl 0 rfl) ?_
    refine va_get (D := E.1) (ci := 5) (v := .int 0) (C := RX5) (T := TX5) (N := 15) hx hb hts hiX5 hown hK hP 0 rfl rfl 0 (by decide) hf26 (fun _ h9 => h9) rfl dX5_settles_21 ?_
    refine lv_if_le (tgt := 31) hx hb dX5_settles_24 (by decide) (fun c_24 => ?_) (fun c_24 => absurd (by decide) c_24)
    refine lv_aload_n hx hb dX5_settles_31 rfl (lv_at hl 0 rfl) ?_
    refine lv_iload_n hx hb dX5_settles_32 rfl (lv_at hl 1 rfl) ?_
    refine gv0i (As := [.int v1]) (rest := []) ⟨hx, hb, hml, hown, hts⟩ (c_X5_settledAt l E A (upd G 0 0) z a t r h v1 hz) (cwV 1 hts gX5_settles_X5_settledAt rfl rfl rfl (by decide +kernel) ⟨Nat.le_of_ble_eq_true rfl, Nat.le_of_ble_eq_true rfl⟩) (va_recv hK hP (ci := 5) (q0 := 0) rfl rfl) hP hK hD hN hS hA rfl hl.1 rfl (Nat.le_of_ble_eq_true rfl) dX5_settles_33 ⟨Nat.le_refl _, Nat.le_refl _⟩ (fun H locs hP hD hS => ?_)
    have hP : va_P E.1 vwCl (wM E A ((stU v1 z (upd G 0 0)).2.2) z (kpL z 159 0 a) t r h) H := hP
    have hD : va_D _ (wM E A ((stU v1 z (upd G 0 0)).2.2) z (kpL z 159 0 a) t r h) := hD
    exact greti hx hb hr hlocks hP hD hS (by simp only [if_neg c_9, if_pos c_24]) (by simp only [if_neg c_9, if_pos c_24]) dX5_settles_36

set_option maxHeartbeats 4000000 in
set_option maxRecDepth 100000 in
theorem c_X5_holds (l : Launch) (E : EE) (A : Nat → Nat) (G z a t r : Nat → Int32) (h : Int64) (v1 v2 : Int32) (hz : zOK z) : GM l yX5_holds wsX5_holds 5 118 E (wM E A G z a t r h) [.ref (A 0), .int v1, .int v2] (wM E A ((hoU v1 z G).2) z (kpL z 159 0 a) t r h) (some (.int (hoR v1 v2 z G))) := by
  intro sz
  refine Met.ofW (cc := cX5_holds) (maxL := 4) (ret := (some .boolean)) (by decide) rfl ?_
  intro p e s m args below meth c s₁ B hml hv
  obtain ⟨rfl, rfl, hP, hK, hD0, hN⟩ := hv
  have hx := B.exec
  have hb := B.bytes
  have hr := B.returns
  have hts := atoms_spec (ws := wsX5_holds) B.pre
  have hown : s.vm.findClass RX5 = some m.cls := findClass_of_methodNamed B.named
  have hlocks := B.notSynchronized
  have hD := hD0.self (sz := s.heap.size)
  have hA : ∀ q : Nat, s.heap.size ≤ q → va_A (wM E A G z a t r h) s.heap.size q := fun q h => Or.inr h
  have hS : va_S (va_A (wM E A G z a t r h) s.heap.size) s.heap s.heap [] := va_S.rf
  have hl := lv_entry ([.ref (A 0), .int v1, .int v2]) (n := 4) (Nat.le_of_ble_eq_true rfl)
  rw [lg_entry_eq]
  generalize (lg_sl ([.ref (A 0), .int v1, .int v2]) ++ List.replicate (4 - (lg_sl ([.ref (A 0), .int v1, .int v2])).length) Slot.unset).toArray = ls at hl ⊢
  have hl : lv_has ls 4 [(0, .ref (A 0)), (1, .int v1), (2, .int v2)] := hl
  have hf69 := hts (.fieldLink RX5 69 "PhaseConverterModel" "least" "I") (List.mem_of_getElem? (i := 2) rfl)
  have hf7 := hts (.fieldLink RX5 7 "PhaseConverterModel" "z" "[I") (List.mem_of_getElem? (i := 1) rfl)
  have hiX5 : ∀ w ∈ u_ws RX5 TX5 15, w ∈ wsX5_holds := memIn [77, 78, 79, 80, 81, 82, 83, 84, 85, 86, 87, 88, 89, 90, 91] rfl
  refine lv_aload_n hx hb dX5_holds_0 rfl (lv_at hl 0 rfl) ?_
  refine gv0v (As := []) (rest := []) ⟨hx, hb, hml, hown, hts⟩ (c_X5_keep l E A G z a t r h) (cwV 0 hts gX5_holds_X5_keep rfl rfl rfl (by decide +kernel) ⟨Nat.le_of_ble_eq_true rfl, Nat.le_of_ble_eq_true rfl⟩) (va_recv hK hP (ci := 5) (q0 := 0) rfl rfl) hP hK hD hN hS hA rfl hl.1 rfl (Nat.le_of_ble_eq_true rfl) dX5_holds_1 ⟨Nat.le_refl _, Nat.le_refl _⟩ (fun H locs hP hD hS => ?_)
  have hP : va_P E.1 vwCl (wM E A (layE G) z (kpL z 159 0 a) t r h) H := hP
  have hD : va_D _ (wM E A (layE G) z (kpL z 159 0 a) t r h) := hD
  refine lv_aload_n hx hb dX5_holds_4 rfl (lv_at hl 0 rfl) ?_
  refine va_get (D := E.1) (ci := 5) (v := .ref (A 1)) (C := RX5) (T := TX5) (N := 15) hx hb hts hiX5 hown hK hP 0 rfl rfl 1 (by decide) hf7 (fun _ h9 => h9) rfl dX5_holds_5 ?_
  refine lv_iconst (v := 2) hx hb dX5_holds_8 (by decide) ?_
  refine lv_iload_n hx hb dX5_holds_9 rfl (lv_at hl 1 rfl) ?_
  refine gast hx hb hK hP hD hS 1 rfl 2 (rfl) (by decide) (by decide) dX5_holds_10 (fun H locs hP hD hS => ?_)
  have hP : va_P E.1 vwCl (wM E A (layE G) (upd z 2 v1) (kpL z 159 0 a) t r h) H := hP
  have hD : va_D _ (wM E A (layE G) (upd z 2 v1) (kpL z 159 0 a) t r h) := hD
  refine lv_iconst (v := 0) hx hb dX5_holds_11 (by decide) ?_
  refine lv_istore_n (lv' := [(3, .int 0), (0, .ref (A 0)), (1, .int v1), (2, .int v2)]) hx hb dX5_holds_12 rfl hl (by decide) rfl (fun ls hl => ?_)
  have L_13 : ∀ (n i : Nat) (z1 : Nat → Int32) (G1 : Nat → Int32) (H : Heap) (locs : List Loc) (ls : Array Slot), (i + n = 30) → (zOK z1) → (∀ k, 159 ≤ k → z1 k = z k) → (runL n z1 G1 = runL 30 (upd z 2 v1) (layE G)) → va_P E.1 vwCl (wM E A G1 z1 (kpL z 159 0 a) t r h) H → va_D (va_A (wM E A G z a t r h) s.heap.size) (wM E A G1 z1 (kpL z 159 0 a) t r h) → va_S (va_A (wM E A G z a t r h) s.heap.size) s.heap H locs → lv_has ls 4 [(3, .int (nI i)), (0, .ref (A 0)), (1, .int v1), (2, .int v2)] → W p l e (gR wsX5_holds 5 118) s m ([.ref (A 0), .int v1, .int v2] : List Value).toArray below meth c H locs 0 0 (gMQ below E s (wM E A G z a t r h) (wM E A ((hoU v1 z G).2) z (kpL z 159 0 a) t r h) (some (.int (hoR v1 v2 z G))) [.ref (A 0), .int v1, .int v2]) (F0 m 13 ls []) := by
    intro n
    induction n with
    | zero =>
      intro i z1 G1 H locs ls hin h1 hge hfn hP hD hS hl
      have hf : (z1, G1) = hoU v1 z G := hfn
      have htb : kpL (kpL z 159 0 a) 159 0 z1 = z := tb_eq hge
      refine lv_iload_n hx hb dX5_holds_13 rfl (lv_at hl 0 rfl) ?_
      refine lv_bipush (v := 30) hx hb dX5_holds_14 (by decide) ?_
      refine lv_icmp_ge (tgt := 29) hx hb dX5_holds_16 (by decide) (fun c_16 => ?_) (fun c_16 => absurd (nI_le (a := 30) (by omega) (by omega)) c_16)
      refine lv_aload_n hx hb dX5_holds_29 rfl (lv_at hl 1 rfl) ?_
      refine gv0v (As := []) (rest := []) ⟨hx, hb, hml, hown, hts⟩ (c_X5_takeBack l E A G1 z1 (kpL z 159 0 a) t r h) (cwV 0 hts gX5_holds_X5_takeBack rfl rfl rfl (by decide +kernel) ⟨Nat.le_of_ble_eq_true rfl, Nat.le_of_ble_eq_true rfl⟩) (va_recv hK hP (ci := 5) (q0 := 0) rfl rfl) hP hK hD hN hS hA rfl hl.1 rfl (Nat.le_of_ble_eq_true rfl) dX5_holds_30 ⟨Nat.le_refl _, Nat.le_refl _⟩ (fun H locs hP hD hS => ?_)
      have hP : va_P E.1 vwCl (wM E A G1 (kpL (kpL z 159 0 a) 159 0 z1) (kpL z 159 0 a) t r h) H := hP
      have hD : va_D _ (wM E A G1 (kpL (kpL z 159 0 a) 159 0 z1) (kpL z 159 0 a) t r h) := hD
      refine lv_aload_n hx hb dX5_holds_33 rfl (lv_at hl 1 rfl) ?_
      refine va_get (D := E.1) (ci := 5) (v := .int (G1 5)) (C := RX5) (T := TX5) (N := 15) hx hb hts hiX5 hown hK hP 0 rfl rfl 5 (by decide) hf69 (fun _ h9 => h9) rfl dX5_holds_34 ?_
      refine lv_iload_n hx hb dX5_holds_37 rfl (lv_at hl 3 rfl) ?_
      refine lv_icmp_lt (tgt := 45) hx hb dX5_holds_38 (by decide) (fun c_38 => ?_) (fun c_38 => ?_)
      · refine lv_iconst (v := 0) hx hb dX5_holds_45 (by decide) ?_
        exact gretz hx hb hr hlocks hP hD hS (by first | exact Or.inl rfl | exact Or.inr rfl) (by simp only [hoR, ← hf, if_pos c_16, if_pos c_38]) (by rw [htb, ← hf]) dX5_holds_46
      · refine lv_iconst (v := 1) hx hb dX5_holds_41 (by decide) ?_
        refine lv_goto (tgt := 46) hx hb dX5_holds_42 (by decide) ?_
        exact gretz hx hb hr hlocks hP hD hS (by first | exact Or.inl rfl | exact Or.inr rfl) (by simp only [hoR, ← hf, if_pos c_16, if_neg c_38]) (by rw [htb, ← hf]) dX5_holds_46
    | succ n ih =>
      intro i z1 G1 H locs ls hin h1 hge hfn hP hD hS hl
      refine lv_iload_n hx hb dX5_holds_13 rfl (lv_at hl 0 rfl) ?_
      refine lv_bipush (v := 30) hx hb dX5_holds_14 (by decide) ?_
      refine lv_icmp_ge (tgt := 29) hx hb dX5_holds_16 (by decide) (fun c_16 => absurd c_16 (nI_ge (b := 30) (by omega) (by omega))) (fun c_16 => ?_)
      refine lv_aload_n hx hb dX5_holds_19 rfl (lv_at hl 1 rfl) ?_
      refine gv0v (As := []) (rest := []) ⟨hx, hb, hml, hown, hts⟩ (c_X5_cycle l E A G1 z1 (kpL z 159 0 a) t r h h1) (cwV 0 hts gX5_holds_X5_cycle rfl rfl rfl (by decide +kernel) ⟨Nat.le_of_ble_eq_true rfl, Nat.le_of_ble_eq_true rfl⟩) (va_recv hK hP (ci := 5) (q0 := 0) rfl rfl) hP hK hD hN hS hA rfl hl.1 rfl (Nat.le_of_ble_eq_true rfl) dX5_holds_20 ⟨Nat.le_refl _, Nat.le_refl _⟩ (fun H locs hP hD hS => ?_)
      have hP : va_P E.1 vwCl (wM E A ((cycle z1 G1).2) ((cycle z1 G1).1) (kpL z 159 0 a) t r h) H := hP
      have hD : va_D _ (wM E A ((cycle z1 G1).2) ((cycle z1 G1).1) (kpL z 159 0 a) t r h) := hD
      refine lv_iinc (v := nI (i + 1)) (lv' := [(3, .int (nI (i + 1))), (0, .ref (A 0)), (1, .int v1), (2, .int v2)]) hx hb dX5_holds_23 hl (k := 0) rfl (nI_1 _) (by decide) rfl (fun ls hl => ?_)
      refine lv_goto (tgt := 13) hx hb dX5_holds_26 (by decide) ?_
      exact ih (i + 1) ((cycle z1 G1).1) ((cycle z1 G1).2) H locs ls (by omega) (cycle_OK h1) (fun k hk => (cycle_ge h1 hk).trans (hge k hk)) (hfn) hP hD hS (lv_sub hl [0, 1, 2, 3] rfl)
  exact L_13 (30) (0) (upd z 2 v1) (layE G) H locs ls (by omega) (upd_OK hz (by omega) (by omega) (by omega) (by omega) (by omega)) (fun k hk => pk_un (by omega)) rfl hP hD hS (lv_sub hl [0, 1, 2, 3] rfl)

set_option maxHeartbeats 4000000 in
set_option maxRecDepth 100000 in
theorem c_X5_greatestLoad (l : Launch) (E : EE) (A : Nat → Nat) (G z a t r : Nat → Int32) (h : Int64) (v1 : Int32) (hz : zOK z) : GM l yX5_greatestLoad wsX5_greatestLoad 6 141 E (wM E A G z a t r h) [.ref (A 0), .int v1] (wM E A (glG v1 z a G) z (glS v1 z a G) t r h) (some (.int (glR v1 z a G))) := by
  intro sz
  refine Met.ofW (cc := cX5_greatestLoad) (maxL := 3) (ret := (some .int)) (by decide) rfl ?_
  intro p e s m args below meth c s₁ B hml hv
  obtain ⟨rfl, rfl, hP, hK, hD0, hN⟩ := hv
  have hx := B.exec
  have hb := B.bytes
  have hr := B.returns
  have hts := atoms_spec (ws := wsX5_greatestLoad) B.pre
  have hown : s.vm.findClass RX5 = some m.cls := findClass_of_methodNamed B.named
  have hlocks := B.notSynchronized
  have hD := hD0.self (sz := s.heap.size)
  have hA : ∀ q : Nat, s.heap.size ≤ q → va_A (wM E A G z a t r h) s.heap.size q := fun q h => Or.inr h
  have hS : va_S (va_A (wM E A G z a t r h) s.heap.size) s.heap s.heap [] := va_S.rf
  have hl := lv_entry ([.ref (A 0), .int v1]) (n := 3) (Nat.le_of_ble_eq_true rfl)
  rw [lg_entry_eq]
  generalize (lg_sl ([.ref (A 0), .int v1]) ++ List.replicate (3 - (lg_sl ([.ref (A 0), .int v1])).length) Slot.unset).toArray = ls at hl ⊢
  have hl : lv_has ls 3 [(0, .ref (A 0)), (1, .int v1)] := hl
  have hf26 := hts (.fieldLink RX5 26 "PhaseConverterModel" "thrown" "I") (List.mem_of_getElem? (i := 2) rfl)
  have hiX5 : ∀ w ∈ u_ws RX5 TX5 15, w ∈ wsX5_greatestLoad := memIn [85, 86, 87, 88, 89, 90, 91, 92, 93, 94, 95, 96, 97, 98, 99] rfl
  refine lv_aload_n hx hb dX5_greatestLoad_0 rfl (lv_at hl 0 rfl) ?_
  refine lv_iload_n hx hb dX5_greatestLoad_1 rfl (lv_at hl 1 rfl) ?_
  refine lv_iconst (v := 0) hx hb dX5_greatestLoad_2 (by decide) ?_
  refine lv_ldc (own := RX5) (v := 40000) hx hb hown (hts (.constant RX5 65 (40000)) (List.mem_of_getElem? (i := 1) rfl)) dX5_greatestLoad_3 ?_
  refine gsPi (As := [.int v1, .int 0, .int 40000]) (rest := [.ref (A 0)]) ⟨hx, hb, hml, hown, hts⟩ (c_X5_within l E v1 0 40000) (va_cwS 3 hts gX5_greatestLoad_X5_within rfl rfl rfl (by decide +kernel) ⟨Nat.le_of_ble_eq_true rfl, Nat.le_of_ble_eq_true rfl⟩) hP hK hD hN hS hA rfl hl.1 rfl (Nat.le_of_ble_eq_true rfl) dX5_greatestLoad_5 ⟨Nat.le_refl _, Nat.le_refl _⟩ (fun H locs hP hD hS => ?_)
  refine lv_if_eq (tgt := 15) hx hb dX5_greatestLoad_8 (by decide) (fun c_8 => ?_) (fun c_8 => ?_)
  · refine lv_iconst (v := 1) hx hb dX5_greatestLoad_15 (by decide) ?_
    refine va_put (D := E.1) (ci := 5) (v := .int 1) (ty := .int) (C := RX5) (T := TX5) (N := 15) hx hb hts hiX5 tyX5 tyX5_ok nmX5 hown hK hP hD hS 0 rfl rfl 0 (by decide) hf26 (fun _ h9 => h9) rfl (by decide +kernel) rfl rfl (Nat.le_of_ble_eq_true rfl) dX5_greatestLoad_16 (fun H locs hP hD hS => ?_)
    have hP : va_P E.1 vwCl (wM E A (upd G 0 1) z a t r h) H := hP
    have hD : va_D _ (wM E A (upd G 0 1) z a t r h) := hD
    refine lv_aload_n hx hb dX5_greatestLoad_19 rfl (lv_at hl 0 rfl) ?_
    refine va_get (D := E.1) (ci := 5) (v := .int 1) (C := RX5) (T := TX5) (N := 15) hx hb hts hiX5 hown hK hP 0 rfl rfl 0 (by decide) hf26 (fun _ h9 => h9) rfl dX5_greatestLoad_20 ?_
    refine lv_if_le (tgt := 28) hx hb dX5_greatestLoad_23 (by decide) (fun c_23 => absurd c_23 (by decide)) (fun c_23 => ?_)
    refine lv_iconst (v := 0) hx hb dX5_greatestLoad_26 (by decide) ?_
    exact greti hx hb hr hlocks hP hD hS (by simp only [glR, if_pos c_8, if_neg c_23]) (by simp only [glS, glG, if_pos c_8, if_neg c_23]) dX5_greatestLoad_27
  · refine lv_iconst (v := 0) hx hb dX5_greatestLoad_11 (by decide) ?_
    refine lv_goto (tgt := 16) hx hb dX5_greatestLoad_12 (by decide) ?_
    refine va_put (D := E.1) (ci := 5) (v := .int 0) (ty := .int) (C := RX5) (T := TX5) (N := 15) hx hb hts hiX5 tyX5 tyX5_ok nmX5 hown hK hP hD hS 0 rfl rfl 0 (by decide) hf26 (fun _ h9 => h9) rfl (by decide +kernel) rfl rfl (Nat.le_of_ble_eq_true rfl) dX5_greatestLoad_16 (fun H locs hP hD hS => ?_)
    have hP : va_P E.1 vwCl (wM E A (upd G 0 0) z a t r h) H := hP
    have hD : va_D _ (wM E A (upd G 0 0) z a t r h) := hD
    refine lv_aload_n hx hb dX5_greatestLoad_19 rfl (lv_at hl 0 rfl) ?_
    refine va_get (D := E.1) (ci := 5) (v := .int 0) (C := RX5) (T := TX5) (N := 15) hx hb hts hiX5 hown hK hP 0 rfl rfl 0 (by decide) hf26 (fun _ h9 => h9) rfl dX5_greatestLoad_20 ?_
    refine lv_if_le (tgt := 28) hx hb dX5_greatestLoad_23 (by decide) (fun c_23 => ?_) (fun c_23 => absurd (by decide) c_23)
    refine lv_sipush (v := 20000) hx hb dX5_greatestLoad_28 (by decide) ?_
    refine lv_istore_n (lv' := [(2, .int 20000), (0, .ref (A 0)), (1, .int v1)]) hx hb dX5_greatestLoad_31 rfl hl (by decide) rfl (fun ls hl => ?_)
    have L_32 : ∀ (n : Nat) (y2 : Int32) (a1 : Nat → Int32) (G1 : Nat → Int32) (H : Heap) (locs : List Loc) (ls : Array Slot), (n ≤ 41) → (y2 = nI (500 * n) - 500) → (glL v1 z n a1 G1 = glL v1 z 41 a (upd G 0 0)) → va_P E.1 vwCl (wM E A G1 z a1 t r h) H → va_D (va_A (wM E A G z a t r h) s.heap.size) (wM E A G1 z a1 t r h) → va_S (va_A (wM E A G z a t r h) s.heap.size) s.heap H locs → lv_has ls 3 [(2, .int y2), (0, .ref (A 0)), (1, .int v1)] → W p l e (gR wsX5_greatestLoad 6 141) s m ([.ref (A 0), .int v1] : List Value).toArray below meth c H locs 0 0 (gMQ below E s (wM E A G z a t r h) (wM E A (glG v1 z a G) z (glS v1 z a G) t r h) (some (.int (glR v1 z a G))) [.ref (A 0), .int v1]) (F0 m 32 ls []) := by
      intro n
      induction n with
      | zero =>
        intro y2 a1 G1 H locs ls hn hy hfn hP hD hS hl
        have hl : lv_has ls 3 [(2, .int y2), (0, .ref (A 0)), (1, .int v1)] := hl
        have hf : (y2, a1, G1) = glU v1 z a G := by rw [hy]; exact hfn
        refine lv_iload_n hx hb dX5_greatestLoad_32 rfl (lv_at hl 0 rfl) ?_
        refine lv_if_lt (tgt := 54) hx hb dX5_greatestLoad_33 (by decide) (fun c_33 => ?_) (fun c_33 => absurd (by rw [hy]; decide) c_33)
        refine lv_iload_n hx hb dX5_greatestLoad_54 rfl (lv_at hl 0 rfl) ?_
        refine lv_if_lt (tgt := 62) hx hb dX5_greatestLoad_55 (by decide) (fun c_55 => ?_) (fun c_55 => ?_)
        · refine lv_iconst (v := (-1)) hx hb dX5_greatestLoad_62 (by decide) ?_
          exact greti hx hb hr hlocks hP hD hS (by simp only [glR, if_neg c_8, ← hf]; simp only [if_pos c_55]) (by simp only [glS, glG, if_neg c_8, ← hf]) dX5_greatestLoad_63
        · refine lv_iload_n hx hb dX5_greatestLoad_58 rfl (lv_at hl 0 rfl) ?_
          refine lv_goto (tgt := 63) hx hb dX5_greatestLoad_59 (by decide) ?_
          exact greti hx hb hr hlocks hP hD hS (by simp only [glR, if_neg c_8, ← hf]; simp only [if_neg c_55]) (by simp only [glS, glG, if_neg c_8, ← hf]) dX5_greatestLoad_63
      | succ n ih =>
        intro y2 a1 G1 H locs ls hn hy hfn hP hD hS hl
        have hl : lv_has ls 3 [(2, .int y2), (0, .ref (A 0)), (1, .int v1)] := hl
        have hy1 : y2 = nI (500 * n) := gl_y (by omega) hy
        subst hy1
        refine lv_iload_n hx hb dX5_greatestLoad_32 rfl (lv_at hl 0 rfl) ?_
        refine lv_if_lt (tgt := 54) hx hb dX5_greatestLoad_33 (by decide) (fun c_33 => absurd c_33 (nI_pos (by omega))) (fun c_33 => ?_)
        refine lv_aload_n hx hb dX5_greatestLoad_36 rfl (lv_at hl 1 rfl) ?_
        refine lv_iload_n hx hb dX5_greatestLoad_37 rfl (lv_at hl 0 rfl) ?_
        refine lv_iload_n hx hb dX5_greatestLoad_38 rfl (lv_at hl 2 rfl) ?_
        refine gv0i (As := [.int (nI (500 * n)), .int v1]) (rest := []) ⟨hx, hb, hml, hown, hts⟩ (c_X5_holds l E A G1 z a1 t r h (nI (500 * n)) v1 hz) (cwV 2 hts gX5_greatestLoad_X5_holds rfl rfl rfl (by decide +kernel) ⟨Nat.le_of_ble_eq_true rfl, Nat.le_of_ble_eq_true rfl⟩) (va_recv hK hP (ci := 5) (q0 := 0) rfl rfl) hP hK hD hN hS hA rfl hl.1 rfl (Nat.le_of_ble_eq_true rfl) dX5_greatestLoad_39 ⟨Nat.le_refl _, Nat.le_refl _⟩ (fun H locs hP hD hS => ?_)
        have hP : va_P E.1 vwCl (wM E A ((hoU (nI (500 * n)) z G1).2) z (kpL z 159 0 a1) t r h) H := hP
        have hD : va_D _ (wM E A ((hoU (nI (500 * n)) z G1).2) z (kpL z 159 0 a1) t r h) := hD
        refine lv_if_ne (tgt := 54) hx hb dX5_greatestLoad_42 (by decide) (fun c_42 => ?_) (fun c_42 => ?_)
        · refine lv_iload_n hx hb dX5_greatestLoad_54 rfl (lv_at hl 0 rfl) ?_
          refine lv_if_lt (tgt := 62) hx hb dX5_greatestLoad_55 (by decide) (fun c_55 => ?_) (fun c_55 => ?_)
          · refine lv_iconst (v := (-1)) hx hb dX5_greatestLoad_62 (by decide) ?_
            exact greti hx hb hr hlocks hP hD hS (by simp only [glR, if_neg c_8, ← ((if_neg c_42).symm.trans hfn : (_, _, _) = glU v1 z a G)]; simp only [if_pos c_55]) (by simp only [glS, glG, if_neg c_8, ← ((if_neg c_42).symm.trans hfn : (_, _, _) = glU v1 z a G)]) dX5_greatestLoad_63
          · refine lv_iload_n hx hb dX5_greatestLoad_58 rfl (lv_at hl 0 rfl) ?_
            refine lv_goto (tgt := 63) hx hb dX5_greatestLoad_59 (by decide) ?_
            exact greti hx hb hr hlocks hP hD hS (by simp only [glR, if_neg c_8, ← ((if_neg c_42).symm.trans hfn : (_, _, _) = glU v1 z a G)]; simp only [if_neg c_55]) (by simp only [glS, glG, if_neg c_8, ← ((if_neg c_42).symm.trans hfn : (_, _, _) = glU v1 z a G)]) dX5_greatestLoad_63
        · refine lv_iincW (v := (nI (500 * n)) + (-500)) (lv' := [(2, .int ((nI (500 * n)) + (-500))), (0, .ref (A 0)), (1, .int v1)]) hx hb dX5_greatestLoad_45 hl (k := 0) rfl rfl (by decide) rfl (fun ls hl => ?_)
          refine lv_goto (tgt := 32) hx hb dX5_greatestLoad_51 (by decide) ?_
          exact ih ((nI (500 * n)) + (-500)) (kpL z 159 0 a1) ((hoU (nI (500 * n)) z G1).2) H locs ls (by omega) (gl_s rfl) ((if_pos c_42).symm.trans hfn) hP hD hS (lv_sub hl [0, 1, 2] rfl)
    exact L_32 41 20000 a (upd G 0 0) H locs ls (Nat.le_refl _) (by decide) rfl hP hD hS (lv_sub hl [0, 1, 2] rfl)
