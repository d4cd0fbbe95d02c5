set_option maxHeartbeats 4000000 in
set_option maxRecDepth 100000 in
theorem c_X5_fresh (l : Launch) (E : EE) (A : Nat → Nat) (G z a t r : Nat → Int32) (h : Int64) (v0 : Int32) : GM l yX5_fresh wsX5_fresh 1 20 E (wM E A G z a t r h) [.ref (A 0), .int v0] (wM E A G (freshZ v0 z) a t r h) (none) := by
  intro sz
  refine Met.ofW (cc := cX5_fresh) (maxL := 3) (ret := none) (by decide) rfl ?_
  intro p e s m args below meth c s₁ B hml hv
  obtain ⟨rfl, rfl, hP, hK, hD0, hN⟩ := hv
  have hx := B.exec
  have hb := B.bytes
  have hr := B.returns
  have hts := atoms_spec (ws := wsX5_fresh) B.pre
  have hown : s.vm.findClass RX5 = some m.cls := findClass_of_methodNamed B.named
  have hlocks := B.notSynchronized
  have hD := hD0.self (sz := s.heap.size)
  have hA : ∀ q : Nat, s.heap.size ≤ q → va_A (wM E A G z a t r h) s.heap.size q := fun q h => Or.inr h
  have hS : va_S (va_A (wM E A G z a t r h) s.heap.size) s.heap s.heap [] := va_S.rf
  have hl := lv_entry ([.ref (A 0), .int v0]) (n := 3) (Nat.le_of_ble_eq_true rfl)
  rw [lg_entry_eq]
  generalize (lg_sl ([.ref (A 0), .int v0]) ++ List.replicate (3 - (lg_sl ([.ref (A 0), .int v0])).length) Slot.unset).toArray = ls at hl ⊢
  have hl : lv_has ls 3 [(0, .ref (A 0)), (1, .int v0)] := hl
  have hf7 := hts (.fieldLink RX5 7 "PhaseConverterModel" "z" "[I") (List.mem_of_getElem? (i := 1) rfl)
  have hiX5 : ∀ w ∈ u_ws RX5 TX5 15, w ∈ wsX5_fresh := memIn [6, 7, 8, 9, 10, 11, 12, 13, 14, 15, 16, 17, 18, 19, 20] rfl
  refine lv_iconst (v := 0) hx hb dX5_fresh_0 (by decide) ?_
  refine lv_istore_n (lv' := [(2, .int 0), (0, .ref (A 0)), (1, .int v0)]) hx hb dX5_fresh_1 rfl hl (by decide) rfl (fun ls hl => ?_)
  have L_2 : ∀ (n i : Nat) (z1 : Nat → Int32) (H : Heap) (locs : List Loc) (ls : Array Slot), (i + n = 159) → (freshL n i z1 = freshL 159 0 z) → va_P E.1 vwCl (wM E A G z1 a t r h) H → va_D (va_A (wM E A G z a t r h) s.heap.size) (wM E A G z1 a t r h) → va_S (va_A (wM E A G z a t r h) s.heap.size) s.heap H locs → lv_has ls 3 [(2, .int (nI i)), (0, .ref (A 0)), (1, .int v0)] → W p l e (gR wsX5_fresh 1 20) s m ([.ref (A 0), .int v0] : List Value).toArray below meth c H locs 0 0 (gMQ below E s (wM E A G z a t r h) (wM E A G (freshZ v0 z) a t r h) (none) [.ref (A 0), .int v0]) (F0 m 2 ls []) := by
    intro n
    induction n with
    | zero =>
      intro i z1 H locs ls hin  hfn hP hD hS hl
      have hf : z1 = freshL 159 0 z := hfn
      subst hf
      refine lv_iload_n hx hb dX5_fresh_2 rfl (lv_at hl 0 rfl) ?_
      refine lv_sipush (v := 159) hx hb dX5_fresh_3 (by decide) ?_
      refine lv_icmp_ge (tgt := 35) hx hb dX5_fresh_6 (by decide) (fun c_6 => ?_) (fun c_6 => absurd (nI_le (a := 159) (by omega) (by omega)) c_6)
      refine lv_aload_n hx hb dX5_fresh_35 rfl (lv_at hl 1 rfl) ?_
      refine va_get (D := E.1) (ci := 5) (v := .ref (A 1)) (C := RX5) (T := TX5) (N := 15) hx hb hts hiX5 hown hK hP 0 rfl rfl 1 (by decide) hf7 (fun _ h9 => h9) rfl dX5_fresh_36 ?_
      refine lv_bipush (v := 15) hx hb dX5_fresh_39 (by decide) ?_
      refine lv_iload_n hx hb dX5_fresh_41 rfl (lv_at hl 2 rfl) ?_
      refine gast hx hb hK hP hD hS 1 rfl 15 (rfl) (by decide) (by decide) dX5_fresh_42 (fun H locs hP hD hS => ?_)
      have hP : va_P E.1 vwCl (wM E A G (upd (freshL 159 0 z) 15 v0) a t r h) H := hP
      have hD : va_D _ (wM E A G (upd (freshL 159 0 z) 15 v0) a t r h) := hD
      refine lv_aload_n hx hb dX5_fresh_43 rfl (lv_at hl 1 rfl) ?_
      refine va_get (D := E.1) (ci := 5) (v := .ref (A 1)) (C := RX5) (T := TX5) (N := 15) hx hb hts hiX5 hown hK hP 0 rfl rfl 1 (by decide) hf7 (fun _ h9 => h9) rfl dX5_fresh_44 ?_
      refine lv_bipush (v := 16) hx hb dX5_fresh_47 (by decide) ?_
      refine lv_iload_n hx hb dX5_fresh_49 rfl (lv_at hl 2 rfl) ?_
      refine gast hx hb hK hP hD hS 1 rfl 16 (rfl) (by decide) (by decide) dX5_fresh_50 (fun H locs hP hD hS => ?_)
      have hP : va_P E.1 vwCl (wM E A G (upd (upd (freshL 159 0 z) 15 v0) 16 v0) a t r h) H := hP
      have hD : va_D _ (wM E A G (upd (upd (freshL 159 0 z) 15 v0) 16 v0) a t r h) := hD
      exact gretv hx hb hr hlocks hP hD hS (rfl) dX5_fresh_51
    | succ n ih =>
      intro i z1 H locs ls hin  hfn hP hD hS hl
      refine lv_iload_n hx hb dX5_fresh_2 rfl (lv_at hl 0 rfl) ?_
      refine lv_sipush (v := 159) hx hb dX5_fresh_3 (by decide) ?_
      refine lv_icmp_ge (tgt := 35) hx hb dX5_fresh_6 (by decide) (fun c_6 => absurd c_6 (nI_ge (b := 159) (by omega) (by omega))) (fun c_6 => ?_)
      refine lv_aload_n hx hb dX5_fresh_9 rfl (lv_at hl 1 rfl) ?_
      refine va_get (D := E.1) (ci := 5) (v := .ref (A 1)) (C := RX5) (T := TX5) (N := 15) hx hb hts hiX5 hown hK hP 0 rfl rfl 1 (by decide) hf7 (fun _ h9 => h9) rfl dX5_fresh_10 ?_
      refine lv_iload_n hx hb dX5_fresh_13 rfl (lv_at hl 0 rfl) ?_
      refine lv_iload_n hx hb dX5_fresh_14 rfl (lv_at hl 0 rfl) ?_
      refine lv_bipush (v := 15) hx hb dX5_fresh_15 (by decide) ?_
      obtain ⟨x_1, ex_1⟩ : ∃ y : Int32, y = (if 15 ≤ (nI i) then 0 else firstT i) := ⟨_, rfl⟩
      have fx : x_1 = frV i := ex_1
      have J_17 : ∀ (H : Heap) (locs : List Loc) (ls : Array Slot), va_P E.1 vwCl (wM E A G z1 a t r h) H → va_D (va_A (wM E A G z a t r h) s.heap.size) (wM E A G z1 a t r h) → va_S (va_A (wM E A G z a t r h) s.heap.size) s.heap H locs → lv_has ls 3 [(2, .int (nI i)), (0, .ref (A 0)), (1, .int v0)] → W p l e (gR wsX5_fresh 1 20) s m ([.ref (A 0), .int v0] : List Value).toArray below meth c H locs 0 0 (gMQ below E s (wM E A G z a t r h) (wM E A G (freshZ v0 z) a t r h) (none) [.ref (A 0), .int v0]) (F0 m 28 ls [.int x_1, .int (nI i), .ref (A 1)]) := by
        intro H locs ls hP hD hS hl
        refine gast hx hb hK hP hD hS 1 rfl i (rfl) (by omega) (by decide) dX5_fresh_28 (fun H locs hP hD hS => ?_)
        have hP : va_P E.1 vwCl (wM E A G (upd z1 i x_1) a t r h) H := hP
        have hD : va_D _ (wM E A G (upd z1 i x_1) a t r h) := hD
        refine lv_iinc (v := nI (i + 1)) (lv' := [(2, .int (nI (i + 1))), (0, .ref (A 0)), (1, .int v0)]) hx hb dX5_fresh_29 hl (k := 0) rfl (nI_1 _) (by decide) rfl (fun ls hl => ?_)
        refine lv_goto (tgt := 2) hx hb dX5_fresh_32 (by decide) ?_
        exact ih (i + 1) (upd z1 i x_1) H locs ls (by omega)  (by rw [fx]; exact hfn) hP hD hS (lv_sub hl [0, 1, 2] rfl)
      refine lv_icmp_ge (tgt := 27) hx hb dX5_fresh_17 (by decide) (fun c_17 => ?_) (fun c_17 => ?_)
      · refine lv_iconst (v := 0) hx hb dX5_fresh_27 (by decide) ?_
        refine W.eq (g2 := F0 m 28 ls [.int x_1, .int (nI i), .ref (A 1)]) (by rw [ex_1]; simp only [if_pos c_17]) ?_
        exact J_17 H locs ls (hP) (hD) hS (lv_sub hl [0, 1, 2] rfl)
      · refine lv_iload_n hx hb dX5_fresh_20 rfl (lv_at hl 0 rfl) ?_
        refine gsPi (As := [.int (nI i)]) (rest := [.int (nI i), .ref (A 1)]) ⟨hx, hb, hml, hown, hts⟩ (c_X5_first l E i (lt_of_nle c_17 (by omega))) (va_cwS 1 hts gX5_fresh_X5_first rfl rfl rfl (by decide +kernel) ⟨Nat.le_of_ble_eq_true rfl, Nat.le_of_ble_eq_true rfl⟩) hP hK hD hN hS hA rfl hl.1 rfl (Nat.le_of_ble_eq_true rfl) dX5_fresh_21 ⟨Nat.le_refl _, Nat.le_refl _⟩ (fun H locs hP hD hS => ?_)
        refine lv_goto (tgt := 28) hx hb dX5_fresh_24 (by decide) ?_
        refine W.eq (g2 := F0 m 28 ls [.int x_1, .int (nI i), .ref (A 1)]) (by rw [ex_1]; simp only [if_neg c_17]) ?_
        exact J_17 H locs ls (hP) (hD) hS (lv_sub hl [0, 1, 2] rfl)
  exact L_2 (159) (0) z s.heap [] ls (by omega)  rfl hP hD hS (lv_sub hl [0, 1, 2] rfl)

set_option maxHeartbeats 4000000 in
set_option maxRecDepth 100000 in
theorem c_X5_begin (l : Launch) (E : EE) (A : Nat → Nat) (G z a t r : Nat → Int32) (h : Int64) (v1 : Int32) : GM l yX5_begin wsX5_begin 2 42 E (wM E A G z a t r h) [.ref (A 0), .int v1] (wM E A (upd G 0 (if inRg v1 1 4 = 0 then 1 else 0)) (if inRg v1 1 4 = 0 then z else freshZ v1 z) a t r h) (some (.int (if inRg v1 1 4 = 0 then 0 else z 15))) := by
  intro sz
  refine Met.ofW (cc := cX5_begin) (maxL := 3) (ret := (some .int)) (by decide) rfl ?_
  intro p e s m args below meth c s₁ B hml hv
  obtain ⟨rfl, rfl, hP, hK, hD0, hN⟩ := hv
  have hx := B.exec
  have hb := B.bytes
  have hr := B.returns
  have hts := atoms_spec (ws := wsX5_begin) B.pre
  have hown : s.vm.findClass RX5 = some m.cls := findClass_of_methodNamed B.named
  have hlocks := B.notSynchronized
  have hD := hD0.self (sz := s.heap.size)
  have hA : ∀ q : Nat, s.heap.size ≤ q → va_A (wM E A G z a t r h) s.heap.size q := fun q h => Or.inr h
  have hS : va_S (va_A (wM E A G z a t r h) s.heap.size) s.heap s.heap [] := va_S.rf
  have hl := lv_entry ([.ref (A 0), .int v1]) (n := 3) (Nat.le_of_ble_eq_true rfl)
  rw [lg_entry_eq]
  generalize (lg_sl ([.ref (A 0), .int v1]) ++ List.replicate (3 - (lg_sl ([.ref (A 0), .int v1])).length) Slot.unset).toArray = ls at hl ⊢
  have hl : lv_has ls 3 [(0, .ref (A 0)), (1, .int v1)] := hl
  have hf26 := hts (.fieldLink RX5 26 "PhaseConverterModel" "thrown" "I") (List.mem_of_getElem? (i := 1) rfl)
  have hf7 := hts (.fieldLink RX5 7 "PhaseConverterModel" "z" "[I") (List.mem_of_getElem? (i := 2) rfl)
  have hiX5 : ∀ w ∈ u_ws RX5 TX5 15, w ∈ wsX5_begin := memIn [14, 15, 16, 17, 18, 19, 20, 21, 22, 23, 24, 25, 26, 27, 28] rfl
  refine lv_aload_n hx hb dX5_begin_0 rfl (lv_at hl 0 rfl) ?_
  refine lv_iload_n hx hb dX5_begin_1 rfl (lv_at hl 1 rfl) ?_
  refine lv_iconst (v := 1) hx hb dX5_begin_2 (by decide) ?_
  refine lv_iconst (v := 4) hx hb dX5_begin_3 (by decide) ?_
  refine gsPi (As := [.int v1, .int 1, .int 4]) (rest := [.ref (A 0)]) ⟨hx, hb, hml, hown, hts⟩ (c_X5_within l E v1 1 4) (va_cwS 3 hts gX5_begin_X5_within rfl rfl rfl (by decide +kernel) ⟨Nat.le_of_ble_eq_true rfl, Nat.le_of_ble_eq_true rfl⟩) hP hK hD hN hS hA rfl hl.1 rfl (Nat.le_of_ble_eq_true rfl) dX5_begin_4 ⟨Nat.le_refl _, Nat.le_refl _⟩ (fun H locs hP hD hS => ?_)
  refine lv_if_eq (tgt := 14) hx hb dX5_begin_7 (by decide) (fun c_7 => ?_) (fun c_7 => ?_)
  · refine lv_iconst (v := 1) hx hb dX5_begin_14 (by decide) ?_
    refine va_put (D := E.1) (ci := 5) (v := .int 1) (ty := .int) (C := RX5) (T := TX5) (N := 15) hx hb hts hiX5 tyX5 tyX5_ok nmX5 hown hK hP hD hS 0 rfl rfl 0 (by decide) hf26 (fun _ h9 => h9) rfl (by decide +kernel) rfl rfl (Nat.le_of_ble_eq_true rfl) dX5_begin_15 (fun H locs hP hD hS => ?_)
    have hP : va_P E.1 vwCl (wM E A (upd G 0 1) z a t r h) H := hP
    have hD : va_D _ (wM E A (upd G 0 1) z a t r h) := hD
    refine lv_aload_n hx hb dX5_begin_18 rfl (lv_at hl 0 rfl) ?_
    refine va_get (D := E.1) (ci := 5) (v := .int 1) (C := RX5) (T := TX5) (N := 15) hx hb hts hiX5 hown hK hP 0 rfl rfl 0 (by decide) hf26 (fun _ h9 => h9) rfl dX5_begin_19 ?_
    refine lv_if_le (tgt := 27) hx hb dX5_begin_22 (by decide) (fun c_22 => absurd c_22 (by decide)) (fun c_22 => ?_)
    refine lv_iconst (v := 0) hx hb dX5_begin_25 (by decide) ?_
    exact greti hx hb hr hlocks hP hD hS (by simp only [if_pos c_7, if_neg c_22]) (by simp only [if_pos c_7, if_neg c_22]) dX5_begin_26
  · refine lv_iconst (v := 0) hx hb dX5_begin_10 (by decide) ?_
    refine lv_goto (tgt := 15) hx hb dX5_begin_11 (by decide) ?_
    refine va_put (D := E.1) (ci := 5) (v := .int 0) (ty := .int) (C := RX5) (T := TX5) (N := 15) hx hb hts hiX5 tyX5 tyX5_ok nmX5 hown hK hP hD hS 0 rfl rfl 0 (by decide) hf26 (fun _ h9 => h9) rfl (by decide +kernel) rfl rfl (Nat.le_of_ble_eq_true rfl) dX5_begin_15 (fun H locs hP hD hS => ?_)
    have hP : va_P E.1 vwCl (wM E A (upd G 0 0) z a t r h) H := hP
    have hD : va_D _ (wM E A (upd G 0 0) z a t r h) := hD
    refine lv_aload_n hx hb dX5_begin_18 rfl (lv_at hl 0 rfl) ?_
    refine va_get (D := E.1) (ci := 5) (v := .int 0) (C := RX5) (T := TX5) (N := 15) hx hb hts hiX5 hown hK hP 0 rfl rfl 0 (by decide) hf26 (fun _ h9 => h9) rfl dX5_begin_19 ?_
    refine lv_if_le (tgt := 27) hx hb dX5_begin_22 (by decide) (fun c_22 => ?_) (fun c_22 => absurd (by decide) c_22)
    refine lv_aload_n hx hb dX5_begin_27 rfl (lv_at hl 0 rfl) ?_
    refine va_get (D := E.1) (ci := 5) (v := .ref (A 1)) (C := RX5) (T := TX5) (N := 15) hx hb hts hiX5 hown hK hP 0 rfl rfl 1 (by decide) hf7 (fun _ h9 => h9) rfl dX5_begin_28 ?_
    refine lv_bipush (v := 15) hx hb dX5_begin_31 (by decide) ?_
    refine gald (x := z 15) hx hb hK hP 1 rfl 15 (rfl) (by decide) (by decide) rfl dX5_begin_33 ?_
    refine lv_istore_n (lv' := [(2, .int (z 15)), (0, .ref (A 0)), (1, .int v1)]) hx hb dX5_begin_34 rfl hl (by decide) rfl (fun ls hl => ?_)
    refine lv_aload_n hx hb dX5_begin_35 rfl (lv_at hl 1 rfl) ?_
    refine lv_iload_n hx hb dX5_begin_36 rfl (lv_at hl 2 rfl) ?_
    refine gv0v (As := [.int v1]) (rest := []) ⟨hx, hb, hml, hown, hts⟩ (c_X5_fresh l E A (upd G 0 0) z a t r h v1) (cwV 1 hts gX5_begin_X5_fresh rfl rfl rfl (by decide +kernel) ⟨Nat.le_of_ble_eq_true rfl, Nat.le_of_ble_eq_true rfl⟩) (va_recv hK hP (ci := 5) (q0 := 0) rfl rfl) hP hK hD hN hS hA rfl hl.1 rfl (Nat.le_of_ble_eq_true rfl) dX5_begin_37 ⟨Nat.le_refl _, Nat.le_refl _⟩ (fun H locs hP hD hS => ?_)
    have hP : va_P E.1 vwCl (wM E A (upd G 0 0) (freshZ v1 z) a t r h) H := hP
    have hD : va_D _ (wM E A (upd G 0 0) (freshZ v1 z) a t r h) := hD
    refine lv_iload_n hx hb dX5_begin_40 rfl (lv_at hl 0 rfl) ?_
    exact greti hx hb hr hlocks hP hD hS (by simp only [if_neg c_7, if_pos c_22]) (by simp only [if_neg c_7, if_pos c_22]) dX5_begin_41

set_option maxHeartbeats 4000000 in
set_option maxRecDepth 100000 in
theorem c_X5_set (l : Launch) (E : EE) (A : Nat → Nat) (G z a t r : Nat → Int32) (h : Int64) (v1 v2 : Int32) : GM l yX5_set wsX5_set 2 42 E (wM E A G z a t r h) [.ref (A 0), .int v1, .int v2] (wM E A (upd G 0 (if inRg v1 0 14 = 0 then 1 else (if inRg v2 (lowT v1.toNatClampNeg) (highT v1.toNatClampNeg) = 0 then 2 else 0))) (if inRg v1 0 14 = 0 then z else (if inRg v2 (lowT v1.toNatClampNeg) (highT v1.toNatClampNeg) = 0 then z else upd z v1.toNatClampNeg v2)) a t r h) (some (.int (if inRg v1 0 14 = 0 then 0 else (if inRg v2 (lowT v1.toNatClampNeg) (highT v1.toNatClampNeg) = 0 then 0 else z v1.toNatClampNeg)))) := by
  intro sz
  refine Met.ofW (cc := cX5_set) (maxL := 4) (ret := (some .int)) (by decide) rfl ?_
  intro p e s m args below meth c s₁ B hml hv
  obtain ⟨rfl, rfl, hP, hK, hD0, hN⟩ := hv
  have hx := B.exec
  have hb := B.bytes
  have hr := B.returns
  have hts := atoms_spec (ws := wsX5_set) B.pre
  have hown : s.vm.findClass RX5 = some m.cls := findClass_of_methodNamed B.named
  have hlocks := B.notSynchronized
  have hD := hD0.self (sz := s.heap.size)
  have hA : ∀ q : Nat, s.heap.size ≤ q → va_A (wM E A G z a t r h) s.heap.size q := fun q h => Or.inr h
  have hS : va_S (va_A (wM E A G z a t r h) s.heap.size) s.heap s.heap [] := va_S.rf
  have hl := lv_entry ([.ref (A 0), .int v1, .int v2]) (n := 4) (Nat.le_of_ble_eq_true rfl)
  rw [lg_entry_eq]
  generalize (lg_sl ([.ref (A 0), .int v1, .int v2]) ++ List.replicate (4 - (lg_sl ([.ref (A 0), .int v1, .int v2])).length) Slot.unset).toArray = ls at hl ⊢
  have hl : lv_has ls 4 [(0, .ref (A 0)), (1, .int v1), (2, .int v2)] := hl
  have hf26 := hts (.fieldLink RX5 26 "PhaseConverterModel" "thrown" "I") (List.mem_of_getElem? (i := 1) rfl)
  have hf7 := hts (.fieldLink RX5 7 "PhaseConverterModel" "z" "[I") (List.mem_of_getElem? (i := 2) rfl)
  have hiX5 : ∀ w ∈ u_ws RX5 TX5 15, w ∈ wsX5_set := memIn [17, 18, 19, 20, 21, 22, 23, 24, 25, 26, 27, 28, 29, 30, 31] rfl
  refine lv_aload_n hx hb dX5_set_0 rfl (lv_at hl 0 rfl) ?_
  refine lv_iload_n hx hb dX5_set_1 rfl (lv_at hl 1 rfl) ?_
  refine gsPi (As := [.int v1]) (rest := [.ref (A 0)]) ⟨hx, hb, hml, hown, hts⟩ (c_X5_isSetting l E v1) (va_cwS 1 hts gX5_set_X5_isSetting rfl rfl rfl (by decide +kernel) ⟨Nat.le_of_ble_eq_true rfl, Nat.le_of_ble_eq_true rfl⟩) hP hK hD hN hS hA rfl hl.1 rfl (Nat.le_of_ble_eq_true rfl) dX5_set_2 ⟨Nat.le_refl _, Nat.le_refl _⟩ (fun H locs hP hD hS => ?_)
  refine lv_if_ne (tgt := 12) hx hb dX5_set_5 (by decide) (fun c_5 => ?_) (fun c_5 => ?_)
  · have hvv : nI v1.toNatClampNeg = v1 := (inRg_ix rfl c_5).1
    have hvl : v1.toNatClampNeg < 15 := (inRg_ix rfl c_5).2
    refine lv_iload_n hx hb dX5_set_12 rfl (lv_at hl 2 rfl) ?_
    refine lv_iload_n hx hb dX5_set_13 rfl (lv_at hl 1 rfl) ?_
    refine W.eq (g2 := F0 m 14 ls [.int (nI v1.toNatClampNeg), .int v2, .ref (A 0)]) (by rw [hvv]) ?_
    refine gsPi (As := [.int (nI v1.toNatClampNeg)]) (rest := [.int v2, .ref (A 0)]) ⟨hx, hb, hml, hown, hts⟩ (c_X5_lowest l E v1.toNatClampNeg (by omega)) (va_cwS 1 hts gX5_set_X5_lowest rfl rfl rfl (by decide +kernel) ⟨Nat.le_of_ble_eq_true rfl, Nat.le_of_ble_eq_true rfl⟩) hP hK hD hN hS hA rfl hl.1 rfl (Nat.le_of_ble_eq_true rfl) dX5_set_14 ⟨Nat.le_refl _, Nat.le_refl _⟩ (fun H locs hP hD hS => ?_)
    refine lv_iload_n hx hb dX5_set_17 rfl (lv_at hl 1 rfl) ?_
    refine W.eq (g2 := F0 m 18 ls [.int (nI v1.toNatClampNeg), .int (lowT v1.toNatClampNeg), .int v2, .ref (A 0)]) (by rw [hvv]) ?_
    refine gsPi (As := [.int (nI v1.toNatClampNeg)]) (rest := [.int (lowT v1.toNatClampNeg), .int v2, .ref (A 0)]) ⟨hx, hb, hml, hown, hts⟩ (c_X5_highest l E v1.toNatClampNeg (by omega)) (va_cwS 1 hts gX5_set_X5_highest rfl rfl rfl (by decide +kernel) ⟨Nat.le_of_ble_eq_true rfl, Nat.le_of_ble_eq_true rfl⟩) hP hK hD hN hS hA rfl hl.1 rfl (Nat.le_of_ble_eq_true rfl) dX5_set_18 ⟨Nat.le_refl _, Nat.le_refl _⟩ (fun H locs hP hD hS => ?_)
    refine gsPi (As := [.int v2, .int (lowT v1.toNatClampNeg), .int (highT v1.toNatClampNeg)]) (rest := [.ref (A 0)]) ⟨hx, hb, hml, hown, hts⟩ (c_X5_within l E v2 (lowT v1.toNatClampNeg) (highT v1.toNatClampNeg)) (va_cwS 3 hts gX5_set_X5_within rfl rfl rfl (by decide +kernel) ⟨Nat.le_of_ble_eq_true rfl, Nat.le_of_ble_eq_true rfl⟩) hP hK hD hN hS hA rfl hl.1 rfl (Nat.le_of_ble_eq_true rfl) dX5_set_21 ⟨Nat.le_refl _, Nat.le_refl _⟩ (fun H locs hP hD hS => ?_)
    refine lv_if_eq (tgt := 31) hx hb dX5_set_24 (by decide) (fun c_24 => ?_) (fun c_24 => ?_)
    · refine lv_iconst (v := 2) hx hb dX5_set_31 (by decide) ?_
      refine va_put (D := E.1) (ci := 5) (v := .int 2) (ty := .int) (C := RX5) (T := TX5) (N := 15) hx hb hts hiX5 tyX5 tyX5_ok nmX5 hown hK hP hD hS 0 rfl rfl 0 (by decide) hf26 (fun _ h9 => h9) rfl (by decide +kernel) rfl rfl (Nat.le_of_ble_eq_true rfl) dX5_set_32 (fun H locs hP hD hS => ?_)
      have hP : va_P E.1 vwCl (wM E A (upd G 0 2) z a t r h) H := hP
      have hD : va_D _ (wM E A (upd G 0 2) z a t r h) := hD
      refine lv_aload_n hx hb dX5_set_35 rfl (lv_at hl 0 rfl) ?_
      refine va_get (D := E.1) (ci := 5) (v := .int 2) (C := RX5) (T := TX5) (N := 15) hx hb hts hiX5 hown hK hP 0 rfl rfl 0 (by decide) hf26 (fun _ h9 => h9) rfl dX5_set_36 ?_
      refine lv_if_le (tgt := 44) hx hb dX5_set_39 (by decide) (fun c_39 => absurd c_39 (by decide)) (fun c_39 => ?_)
      refine lv_iconst (v := 0) hx hb dX5_set_42 (by decide) ?_
      exact greti hx hb hr hlocks hP hD hS (by simp only [if_neg c_5, if_pos c_24, if_neg c_39]) (by simp only [if_neg c_5, if_pos c_24, if_neg c_39]) dX5_set_43
    · refine lv_iconst (v := 0) hx hb dX5_set_27 (by decide) ?_
      refine lv_goto (tgt := 32) hx hb dX5_set_28 (by decide) ?_
      refine va_put (D := E.1) (ci := 5) (v := .int 0) (ty := .int) (C := RX5) (T := TX5) (N := 15) hx hb hts hiX5 tyX5 tyX5_ok nmX5 hown hK hP hD hS 0 rfl rfl 0 (by decide) hf26 (fun _ h9 => h9) rfl (by decide +kernel) rfl rfl (Nat.le_of_ble_eq_true rfl) dX5_set_32 (fun H locs hP hD hS => ?_)
      have hP : va_P E.1 vwCl (wM E A (upd G 0 0) z a t r h) H := hP
      have hD : va_D _ (wM E A (upd G 0 0) z a t r h) := hD
      refine lv_aload_n hx hb dX5_set_35 rfl (lv_at hl 0 rfl) ?_
      refine va_get (D := E.1) (ci := 5) (v := .int 0) (C := RX5) (T := TX5) (N := 15) hx hb hts hiX5 hown hK hP 0 rfl rfl 0 (by decide) hf26 (fun _ h9 => h9) rfl dX5_set_36 ?_
      refine lv_if_le (tgt := 44) hx hb dX5_set_39 (by decide) (fun c_39 => ?_) (fun c_39 => absurd (by decide) c_39)
      refine lv_aload_n hx hb dX5_set_44 rfl (lv_at hl 0 rfl) ?_
      refine va_get (D := E.1) (ci := 5) (v := .ref (A 1)) (C := RX5) (T := TX5) (N := 15) hx hb hts hiX5 hown hK hP 0 rfl rfl 1 (by decide) hf7 (fun _ h9 => h9) rfl dX5_set_45 ?_
      refine lv_iload_n hx hb dX5_set_48 rfl (lv_at hl 1 rfl) ?_
      refine gald (x := z v1.toNatClampNeg) hx hb hK hP 1 rfl v1.toNatClampNeg (hvv.symm) (by omega) (by decide) rfl dX5_set_49 ?_
      refine lv_istore_n (lv' := [(3, .int (z v1.toNatClampNeg)), (0, .ref (A 0)), (1, .int v1), (2, .int v2)]) hx hb dX5_set_50 rfl hl (by decide) rfl (fun ls hl => ?_)
      refine lv_aload_n hx hb dX5_set_51 rfl (lv_at hl 1 rfl) ?_
      refine va_get (D := E.1) (ci := 5) (v := .ref (A 1)) (C := RX5) (T := TX5) (N := 15) hx hb hts hiX5 hown hK hP 0 rfl rfl 1 (by decide) hf7 (fun _ h9 => h9) rfl dX5_set_52 ?_
      refine lv_iload_n hx hb dX5_set_55 rfl (lv_at hl 2 rfl) ?_
      refine lv_iload_n hx hb dX5_set_56 rfl (lv_at hl 3 rfl) ?_
      refine gast hx hb hK hP hD hS 1 rfl v1.toNatClampNeg (hvv.symm) (by omega) (by decide) dX5_set_57 (fun H locs hP hD hS => ?_)
      have hP : va_P E.1 vwCl (wM E A (upd G 0 0) (upd z v1.toNatClampNeg v2) a t r h) H := hP
      have hD : va_D _ (wM E A (upd G 0 0) (upd z v1.toNatClampNeg v2) a t r h) := hD
      refine lv_iload_n hx hb dX5_set_58 rfl (lv_at hl 0 rfl) ?_
      exact greti hx hb hr hlocks hP hD hS (by simp only [if_neg c_5, if_neg c_24, if_pos c_39]) (by simp only [if_neg c_5, if_neg c_24, if_pos c_39]) dX5_set_59
  · refine lv_iconst (v := 1) hx hb dX5_set_8 (by decide) ?_
    refine lv_goto (tgt := 32) hx hb dX5_set_9 (by decide) ?_
    refine va_put (D := E.1) (ci := 5) (v := .int 1) (ty := .int) (C := RX5) (T := TX5) (N := 15) hx hb hts hiX5 tyX5 tyX5_ok nmX5 hown hK hP hD hS 0 rfl rfl 0 (by decide) hf26 (fun _ h9 => h9) rfl (by decide +kernel) rfl rfl (Nat.le_of_ble_eq_true rfl) dX5_set_32 (fun H locs hP hD hS => ?_)
    have hP : va_P E.1 vwCl (wM E A (upd G 0 1) z a t r h) H := hP
    have hD : va_D _ (wM E A (upd G 0 1) z a t r h) := hD
    refine lv_aload_n hx hb dX5_set_35 rfl (lv_at hl 0 rfl) ?_
    refine va_get (D := E.1) (ci := 5) (v := .int 1) (C := RX5) (T := TX5) (N := 15) hx hb hts hiX5 hown hK hP 0 rfl rfl 0 (by decide) hf26 (fun _ h9 => h9) rfl dX5_set_36 ?_
    refine lv_if_le (tgt := 44) hx hb dX5_set_39 (by decide) (fun c_39 => absurd c_39 (by decide)) (fun c_39 => ?_)
    refine lv_iconst (v := 0) hx hb dX5_set_42 (by decide) ?_
    exact greti hx hb hr hlocks hP hD hS (by simp only [if_pos c_5, if_neg c_39]) (by simp only [if_pos c_5, if_neg c_39]) dX5_set_43

set_option maxHeartbeats 4000000 in
set_option maxRecDepth 100000 in
theorem c_X5_setting (l : Launch) (E : EE) (A : Nat → Nat) (G z a t r : Nat → Int32) (h : Int64) (v1 : Int32) : GM l yX5_setting wsX5_setting 2 42 E (wM E A G z a t r h) [.ref (A 0), .int v1] (wM E A (upd G 0 (if inRg v1 0 14 = 0 then 1 else 0)) z a t r h) (some (.int (if inRg v1 0 14 = 0 then 0 else z v1.toNatClampNeg))) := by
  intro sz
  refine Met.ofW (cc := cX5_setting) (maxL := 2) (ret := (some .int)) (by decide) rfl ?_
  intro p e s m args below meth c s₁ B hml hv
  obtain ⟨rfl, rfl, hP, hK, hD0, hN⟩ := hv
  have hx := B.exec
  have hb := B.bytes
  have hr := B.returns
  have hts := atoms_spec (ws := wsX5_setting) B.pre
  have hown : s.vm.findClass RX5 = some m.cls := findClass_of_methodNamed B.named
  have hlocks := B.notSynchronized
  have hD := hD0.self (sz := s.heap.size)
  have hA : ∀ q : Nat, s.heap.size ≤ q → va_A (wM E A G z a t r h) s.heap.size q := fun q h => Or.inr h
  have hS : va_S (va_A (wM E A G z a t r h) s.heap.size) s.heap s.heap [] := va_S.rf
  have hl := lv_entry ([.ref (A 0), .int v1]) (n := 2) (Nat.le_of_ble_eq_true rfl)
  rw [lg_entry_eq]
  generalize (lg_sl ([.ref (A 0), .int v1]) ++ List.replicate (2 - (lg_sl ([.ref (A 0), .int v1])).length) Slot.unset).toArray = ls at hl ⊢
  have hl : lv_has ls 2 [(0, .ref (A 0)), (1, .int v1)] := hl
  have hf26 := hts (.fieldLink RX5 26 "PhaseConverterModel" "thrown" "I") (List.mem_of_getElem? (i := 1) rfl)
  have hf7 := hts (.fieldLink RX5 7 "PhaseConverterModel" "z" "[I") (List.mem_of_getElem? (i := 2) rfl)
  have hiX5 : ∀ w ∈ u_ws RX5 TX5 15, w ∈ wsX5_setting := memIn [10, 11, 12, 13, 14, 15, 16, 17, 18, 19, 20, 21, 22, 23, 24] rfl
  refine lv_aload_n hx hb dX5_setting_0 rfl (lv_at hl 0 rfl) ?_
  refine lv_iload_n hx hb dX5_setting_1 rfl (lv_at hl 1 rfl) ?_
  refine gsPi (As := [.int v1]) (rest := [.ref (A 0)]) ⟨hx, hb, hml, hown, hts⟩ (c_X5_isSetting l E v1) (va_cwS 1 hts gX5_setting_X5_isSetting rfl rfl rfl (by decide +kernel) ⟨Nat.le_of_ble_eq_true rfl, Nat.le_of_ble_eq_true rfl⟩) hP hK hD hN hS hA rfl hl.1 rfl (Nat.le_of_ble_eq_true rfl) dX5_setting_2 ⟨Nat.le_refl _, Nat.le_refl _⟩ (fun H locs hP hD hS => ?_)
  refine lv_if_eq (tgt := 12) hx hb dX5_setting_5 (by decide) (fun c_5 => ?_) (fun c_5 => ?_)
  · refine lv_iconst (v := 1) hx hb dX5_setting_12 (by decide) ?_
    refine va_put (D := E.1) (ci := 5) (v := .int 1) (ty := .int) (C := RX5) (T := TX5) (N := 15) hx hb hts hiX5 tyX5 tyX5_ok nmX5 hown hK hP hD hS 0 rfl rfl 0 (by decide) hf26 (fun _ h9 => h9) rfl (by decide +kernel) rfl rfl (Nat.le_of_ble_eq_true rfl) dX5_setting_13 (fun H locs hP hD hS => ?_)
    have hP : va_P E.1 vwCl (wM E A (upd G 0 1) z a t r h) H := hP
    have hD : va_D _ (wM E A (upd G 0 1) z a t r h) := hD
    refine lv_aload_n hx hb dX5_setting_16 rfl (lv_at hl 0 rfl) ?_
    refine va_get (D := E.1) (ci := 5) (v := .int 1) (C := RX5) (T := TX5) (N := 15) hx hb hts hiX5 hown hK hP 0 rfl rfl 0 (by decide) hf26 (fun _ h9 => h9) rfl dX5_setting_17 ?_
    refine lv_if_le (tgt := 27) hx hb dX5_setting_20 (by decide) (fun c_20 => absurd c_20 (by decide)) (fun c_20 => ?_)
    refine lv_iconst (v := 0) hx hb dX5_setting_23 (by decide) ?_
    refine lv_goto (tgt := 33) hx hb dX5_setting_24 (by decide) ?_
    exact greti hx hb hr hlocks hP hD hS (by simp only [if_pos c_5, if_neg c_20]) (by simp only [if_pos c_5, if_neg c_20]) dX5_setting_33
  · have hvv : nI v1.toNatClampNeg = v1 := (inRg_ix rfl c_5).1
    have hvl : v1.toNatClampNeg < 15 := (inRg_ix rfl c_5).2
    refine lv_iconst (v := 0) hx hb dX5_setting_8 (by decide) ?_
    refine lv_goto (tgt := 13) hx hb dX5_setting_9 (by decide) ?_
    refine va_put (D := E.1) (ci := 5) (v := .int 0) (ty := .int) (C := RX5) (T := TX5) (N := 15) hx hb hts hiX5 tyX5 tyX5_ok nmX5 hown hK hP hD hS 0 rfl rfl 0 (by decide) hf26 (fun _ h9 => h9) rfl (by decide +kernel) rfl rfl (Nat.le_of_ble_eq_true rfl) dX5_setting_13 (fun H locs hP hD hS => ?_)
    have hP : va_P E.1 vwCl (wM E A (upd G 0 0) z a t r h) H := hP
    have hD : va_D _ (wM E A (upd G 0 0) z a t r h) := hD
    refine lv_aload_n hx hb dX5_setting_16 rfl (lv_at hl 0 rfl) ?_
    refine va_get (D := E.1) (ci := 5) (v := .int 0) (C := RX5) (T := TX5) (N := 15) hx hb hts hiX5 hown hK hP 0 rfl rfl 0 (by decide) hf26 (fun _ h9 => h9) rfl dX5_setting_17 ?_
    refine lv_if_le (tgt := 27) hx hb dX5_setting_20 (by decide) (fun c_20 => ?_) (fun c_20 => absurd (by decide) c_20)
    refine lv_aload_n hx hb dX5_setting_27 rfl (lv_at hl 0 rfl) ?_
    refine va_get (D := E.1) (ci := 5) (v := .ref (A 1)) (C := RX5) (T := TX5) (N := 15) hx hb hts hiX5 hown hK hP 0 rfl rfl 1 (by decide) hf7 (fun _ h9 => h9) rfl dX5_setting_28 ?_
    refine lv_iload_n hx hb dX5_setting_31 rfl (lv_at hl 1 rfl) ?_
    refine gald (x := z v1.toNatClampNeg) hx hb hK hP 1 rfl v1.toNatClampNeg (hvv.symm) (by omega) (by decide) rfl dX5_setting_32 ?_
    exact greti hx hb hr hlocks hP hD hS (by simp only [if_neg c_5, if_pos c_20]) (by simp only [if_neg c_5, if_pos c_20]) dX5_setting_33

set_option maxHeartbeats 4000000 in
set_option maxRecDepth 100000 in
theorem c_X5_start (l : Launch) (E : EE) (A : Nat → Nat) (G z a t r : Nat → Int32) (h : Int64) (hz : zOK z) : GM l yX5_start wsX5_start 1 21 E (wM E A G z a t r h) [.ref (A 0)] (wM E A (upd G 0 (if runsI z = 0 then 0 else 1)) (if runsI z = 0 then startZ z else z) a t r h) (some (.int (if runsI z = 0 then startZ z 17 else 0))) := by
  intro sz
  refine Met.ofW (cc := cX5_start) (maxL := 2) (ret := (some .int)) (by decide) rfl ?_
  intro p e s m args below meth c s₁ B hml hv
  obtain ⟨rfl, rfl, hP, hK, hD0, hN⟩ := hv
  have hx := B.exec
  have hb := B.bytes
  have hr := B.returns
  have hts := atoms_spec (ws := wsX5_start) B.pre
  have hown : s.vm.findClass RX5 = some m.cls := findClass_of_methodNamed B.named
  have hlocks := B.notSynchronized
  have hD := hD0.self (sz := s.heap.size)
  have hA : ∀ q : Nat, s.heap.size ≤ q → va_A (wM E A G z a t r h) s.heap.size q := fun q h => Or.inr h
  have hS : va_S (va_A (wM E A G z a t r h) s.heap.size) s.heap s.heap [] := va_S.rf
  have hl := lv_entry ([.ref (A 0)]) (n := 2) (Nat.le_of_ble_eq_true rfl)
  rw [lg_entry_eq]
  generalize (lg_sl ([.ref (A 0)]) ++ List.replicate (2 - (lg_sl ([.ref (A 0)])).length) Slot.unset).toArray = ls at hl ⊢
  have hl : lv_has ls 2 [(0, .ref (A 0))] := hl
  have hf26 := hts (.fieldLink RX5 26 "PhaseConverterModel" "thrown" "I") (List.mem_of_getElem? (i := 1) rfl)
  have hf7 := hts (.fieldLink RX5 7 "PhaseConverterModel" "z" "[I") (List.mem_of_getElem? (i := 2) rfl)
  have hiX5 : ∀ w ∈ u_ws RX5 TX5 15, w ∈ wsX5_start := memIn [11, 12, 13, 14, 15, 16, 17, 18, 19, 20, 21, 22, 23, 24, 25] rfl
  have hn4 := hz.2.2.1
  refine lv_aload_n hx hb dX5_start_0 rfl (lv_at hl 0 rfl) ?_
  refine lv_aload_n hx hb dX5_start_1 rfl (lv_at hl 0 rfl) ?_
  refine gv0i (As := []) (rest := [.ref (A 0)]) ⟨hx, hb, hml, hown, hts⟩ (c_X5_runs l E A G z a t r h) (cwV 0 hts gX5_start_X5_runs rfl rfl rfl (by decide +kernel) ⟨Nat.le_of_ble_eq_true rfl, Nat.le_of_ble_eq_true rfl⟩) (va_recv hK hP (ci := 5) (q0 := 0) rfl rfl) hP hK hD hN hS hA rfl hl.1 rfl (Nat.le_of_ble_eq_true rfl) dX5_start_2 ⟨Nat.le_refl _, Nat.le_refl _⟩ (fun H locs hP hD hS => ?_)
  refine lv_if_eq (tgt := 12) hx hb dX5_start_5 (by decide) (fun c_5 => ?_) (fun c_5 => ?_)
  · refine lv_iconst (v := 0) hx hb dX5_start_12 (by decide) ?_
    refine va_put (D := E.1) (ci := 5) (v := .int 0) (ty := .int) (C := RX5) (T := TX5) (N := 15) hx hb hts hiX5 tyX5 tyX5_ok nmX5 hown hK hP hD hS 0 rfl rfl 0 (by decide) hf26 (fun _ h9 => h9) rfl (by decide +kernel) rfl rfl (Nat.le_of_ble_eq_true rfl) dX5_start_13 (fun H locs hP hD hS => ?_)
    have hP : va_P E.1 vwCl (wM E A (upd G 0 0) z a t r h) H := hP
    have hD : va_D _ (wM E A (upd G 0 0) z a t r h) := hD
    refine lv_aload_n hx hb dX5_start_16 rfl (lv_at hl 0 rfl) ?_
    refine va_get (D := E.1) (ci := 5) (v := .int 0) (C := RX5) (T := TX5) (N := 15) hx hb hts hiX5 hown hK hP 0 rfl rfl 0 (by decide) hf26 (fun _ h9 => h9) rfl dX5_start_17 ?_
    refine lv_if_le (tgt := 25) hx hb dX5_start_20 (by decide) (fun c_20 => ?_) (fun c_20 => absurd (by decide) c_20)
    refine lv_aload_n hx hb dX5_start_25 rfl (lv_at hl 0 rfl) ?_
    refine va_get (D := E.1) (ci := 5) (v := .ref (A 1)) (C := RX5) (T := TX5) (N := 15) hx hb hts hiX5 hown hK hP 0 rfl rfl 1 (by decide) hf7 (fun _ h9 => h9) rfl dX5_start_26 ?_
    refine lv_bipush (v := 20) hx hb dX5_start_29 (by decide) ?_
    refine lv_iconst (v := 1) hx hb dX5_start_31 (by decide) ?_
    refine gast hx hb hK hP hD hS 1 rfl 20 (rfl) (by decide) (by decide) dX5_start_32 (fun H locs hP hD hS => ?_)
    have hP : va_P E.1 vwCl (wM E A (upd G 0 0) (upd z 20 1) a t r h) H := hP
    have hD : va_D _ (wM E A (upd G 0 0) (upd z 20 1) a t r h) := hD
    refine lv_aload_n hx hb dX5_start_33 rfl (lv_at hl 0 rfl) ?_
    refine va_get (D := E.1) (ci := 5) (v := .ref (A 1)) (C := RX5) (T := TX5) (N := 15) hx hb hts hiX5 hown hK hP 0 rfl rfl 1 (by decide) hf7 (fun _ h9 => h9) rfl dX5_start_34 ?_
    refine lv_bipush (v := 18) hx hb dX5_start_37 (by decide) ?_
    refine lv_aload_n hx hb dX5_start_39 rfl (lv_at hl 0 rfl) ?_
    refine va_get (D := E.1) (ci := 5) (v := .ref (A 1)) (C := RX5) (T := TX5) (N := 15) hx hb hts hiX5 hown hK hP 0 rfl rfl 1 (by decide) hf7 (fun _ h9 => h9) rfl dX5_start_40 ?_
    refine lv_bipush (v := 17) hx hb dX5_start_43 (by decide) ?_
    refine gald (x := z 17) hx hb hK hP 1 rfl 17 (rfl) (by decide) (by decide) rfl dX5_start_45 ?_
    refine gast hx hb hK hP hD hS 1 rfl 18 (rfl) (by decide) (by decide) dX5_start_46 (fun H locs hP hD hS => ?_)
    have hP : va_P E.1 vwCl (wM E A (upd G 0 0) (upd (upd z 20 1) 18 (z 17)) a t r h) H := hP
    have hD : va_D _ (wM E A (upd G 0 0) (upd (upd z 20 1) 18 (z 17)) a t r h) := hD
    refine lv_aload_n hx hb dX5_start_47 rfl (lv_at hl 0 rfl) ?_
    refine va_get (D := E.1) (ci := 5) (v := .ref (A 1)) (C := RX5) (T := TX5) (N := 15) hx hb hts hiX5 hown hK hP 0 rfl rfl 1 (by decide) hf7 (fun _ h9 => h9) rfl dX5_start_48 ?_
    refine lv_bipush (v := 19) hx hb dX5_start_51 (by decide) ?_
    refine lv_iconst (v := 0) hx hb dX5_start_53 (by decide) ?_
    refine gast hx hb hK hP hD hS 1 rfl 19 (rfl) (by decide) (by decide) dX5_start_54 (fun H locs hP hD hS => ?_)
    have hP : va_P E.1 vwCl (wM E A (upd G 0 0) (upd (upd (upd z 20 1) 18 (z 17)) 19 0) a t r h) H := hP
    have hD : va_D _ (wM E A (upd G 0 0) (upd (upd (upd z 20 1) 18 (z 17)) 19 0) a t r h) := hD
    refine lv_aload_n hx hb dX5_start_55 rfl (lv_at hl 0 rfl) ?_
    refine va_get (D := E.1) (ci := 5) (v := .ref (A 1)) (C := RX5) (T := TX5) (N := 15) hx hb hts hiX5 hown hK hP 0 rfl rfl 1 (by decide) hf7 (fun _ h9 => h9) rfl dX5_start_56 ?_
    refine lv_bipush (v := 29) hx hb dX5_start_59 (by decide) ?_
    refine lv_iconst (v := 0) hx hb dX5_start_61 (by decide) ?_
    refine gast hx hb hK hP hD hS 1 rfl 29 (rfl) (by decide) (by decide) dX5_start_62 (fun H locs hP hD hS => ?_)
    have hP : va_P E.1 vwCl (wM E A (upd G 0 0) (upd (upd (upd (upd z 20 1) 18 (z 17)) 19 0) 29 0) a t r h) H := hP
    have hD : va_D _ (wM E A (upd G 0 0) (upd (upd (upd (upd z 20 1) 18 (z 17)) 19 0) 29 0) a t r h) := hD
    refine lv_aload_n hx hb dX5_start_63 rfl (lv_at hl 0 rfl) ?_
    refine va_get (D := E.1) (ci := 5) (v := .ref (A 1)) (C := RX5) (T := TX5) (N := 15) hx hb hts hiX5 hown hK hP 0 rfl rfl 1 (by decide) hf7 (fun _ h9 => h9) rfl dX5_start_64 ?_
    refine lv_bipush (v := 30) hx hb dX5_start_67 (by decide) ?_
    refine lv_iconst (v := 0) hx hb dX5_start_69 (by decide) ?_
    refine gast hx hb hK hP hD hS 1 rfl 30 (rfl) (by decide) (by decide) dX5_start_70 (fun H locs hP hD hS => ?_)
    have hP : va_P E.1 vwCl (wM E A (upd G 0 0) (upd (upd (upd (upd (upd z 20 1) 18 (z 17)) 19 0) 29 0) 30 0) a t r h) H := hP
    have hD : va_D _ (wM E A (upd G 0 0) (upd (upd (upd (upd (upd z 20 1) 18 (z 17)) 19 0) 29 0) 30 0) a t r h) := hD
    refine lv_aload_n hx hb dX5_start_71 rfl (lv_at hl 0 rfl) ?_
    refine va_get (D := E.1) (ci := 5) (v := .ref (A 1)) (C := RX5) (T := TX5) (N := 15) hx hb hts hiX5 hown hK hP 0 rfl rfl 1 (by decide) hf7 (fun _ h9 => h9) rfl dX5_start_72 ?_
    refine lv_bipush (v := 16) hx hb dX5_start_75 (by decide) ?_
    refine lv_aload_n hx hb dX5_start_77 rfl (lv_at hl 0 rfl) ?_
    refine va_get (D := E.1) (ci := 5) (v := .ref (A 1)) (C := RX5) (T := TX5) (N := 15) hx hb hts hiX5 hown hK hP 0 rfl rfl 1 (by decide) hf7 (fun _ h9 => h9) rfl dX5_start_78 ?_
    refine lv_bipush (v := 15) hx hb dX5_start_81 (by decide) ?_
    refine gald (x := z 15) hx hb hK hP 1 rfl 15 (rfl) (by decide) (by decide) rfl dX5_start_83 ?_
    refine gast hx hb hK hP hD hS 1 rfl 16 (rfl) (by decide) (by decide) dX5_start_84 (fun H locs hP hD hS => ?_)
    have hP : va_P E.1 vwCl (wM E A (upd G 0 0) (upd (upd (upd (upd (upd (upd z 20 1) 18 (z 17)) 19 0) 29 0) 30 0) 16 (z 15)) a t r h) H := hP
    have hD : va_D _ (wM E A (upd G 0 0) (upd (upd (upd (upd (upd (upd z 20 1) 18 (z 17)) 19 0) 29 0) 30 0) 16 (z 15)) a t r h) := hD
    refine lv_iconst (v := 0) hx hb dX5_start_85 (by decide) ?_
    refine lv_istore_n (lv' := [(1, .int 0), (0, .ref (A 0))]) hx hb dX5_start_86 rfl hl (by decide) rfl (fun ls hl => ?_)
    have L_87 : ∀ (n i : Nat) (z1 : Nat → Int32) (H : Heap) (locs : List Loc) (ls : Array Slot), (i + n = nOf z) → (z1 15 = nI (nOf z)) → (startL n i z1 = startL (nOf z) 0 (upd (upd (upd (upd (upd (upd z 20 1) 18 (z 17)) 19 0) 29 0) 30 0) 16 (z 15))) → va_P E.1 vwCl (wM E A (upd G 0 0) z1 a t r h) H → va_D (va_A (wM E A G z a t r h) s.heap.size) (wM E A (upd G 0 0) z1 a t r h) → va_S (va_A (wM E A G z a t r h) s.heap.size) s.heap H locs → lv_has ls 2 [(1, .int (nI i)), (0, .ref (A 0))] → W p l e (gR wsX5_start 1 21) s m ([.ref (A 0)] : List Value).toArray below meth c H locs 0 0 (gMQ below E s (wM E A G z a t r h) (wM E A (upd G 0 (if runsI z = 0 then 0 else 1)) (if runsI z = 0 then startZ z else z) a t r h) (some (.int (if runsI z = 0 then startZ z 17 else 0))) [.ref (A 0)]) (F0 m 87 ls []) := by
      intro n
      induction n with
      | zero =>
        intro i z1 H locs ls hin h1 hfn hP hD hS hl
        have hf : z1 = startZ z := hfn
        subst hf
        refine lv_iload_n hx hb dX5_start_87 rfl (lv_at hl 0 rfl) ?_
        refine lv_aload_n hx hb dX5_start_88 rfl (lv_at hl 1 rfl) ?_
        refine va_get (D := E.1) (ci := 5) (v := .ref (A 1)) (C := RX5) (T := TX5) (N := 15) hx hb hts hiX5 hown hK hP 0 rfl rfl 1 (by decide) hf7 (fun _ h9 => h9) rfl dX5_start_89 ?_
        refine lv_bipush (v := 15) hx hb dX5_start_92 (by decide) ?_
        refine gald (x := (startZ z) 15) hx hb hK hP 1 rfl 15 (rfl) (by decide) (by decide) rfl dX5_start_94 ?_
        refine lv_icmp_ge (tgt := 115) hx hb dX5_start_95 (by decide) (fun c_95 => ?_) (fun c_95 => absurd (by rw [h1]; exact nI_le (by omega) (by omega)) c_95)
        refine lv_aload_n hx hb dX5_start_115 rfl (lv_at hl 1 rfl) ?_
        refine va_get (D := E.1) (ci := 5) (v := .ref (A 1)) (C := RX5) (T := TX5) (N := 15) hx hb hts hiX5 hown hK hP 0 rfl rfl 1 (by decide) hf7 (fun _ h9 => h9) rfl dX5_start_116 ?_
        refine lv_bipush (v := 17) hx hb dX5_start_119 (by decide) ?_
        refine gald (x := (startZ z) 17) hx hb hK hP 1 rfl 17 (rfl) (by decide) (by decide) rfl dX5_start_121 ?_
        exact greti hx hb hr hlocks hP hD hS (by simp only [if_pos c_5, if_pos c_20, if_pos c_95]) (by simp only [if_pos c_5, if_pos c_20, if_pos c_95]) dX5_start_122
      | succ n ih =>
        intro i z1 H locs ls hin h1 hfn hP hD hS hl
        refine lv_iload_n hx hb dX5_start_87 rfl (lv_at hl 0 rfl) ?_
        refine lv_aload_n hx hb dX5_start_88 rfl (lv_at hl 1 rfl) ?_
        refine va_get (D := E.1) (ci := 5) (v := .ref (A 1)) (C := RX5) (T := TX5) (N := 15) hx hb hts hiX5 hown hK hP 0 rfl rfl 1 (by decide) hf7 (fun _ h9 => h9) rfl dX5_start_89 ?_
        refine lv_bipush (v := 15) hx hb dX5_start_92 (by decide) ?_
        refine gald (x := z1 15) hx hb hK hP 1 rfl 15 (rfl) (by decide) (by decide) rfl dX5_start_94 ?_
        refine lv_icmp_ge (tgt := 115) hx hb dX5_start_95 (by decide) (fun c_95 => absurd c_95 (by rw [h1]; exact nI_ge (by omega) (by omega))) (fun c_95 => ?_)
        refine lv_aload_n hx hb dX5_start_98 rfl (lv_at hl 1 rfl) ?_
        refine va_get (D := E.1) (ci := 5) (v := .ref (A 1)) (C := RX5) (T := TX5) (N := 15) hx hb hts hiX5 hown hK hP 0 rfl rfl 1 (by decide) hf7 (fun _ h9 => h9) rfl dX5_start_99 ?_
        refine lv_iload_n hx hb dX5_start_102 rfl (lv_at hl 0 rfl) ?_
        refine lv_iconst (v := 2) hx hb dX5_start_103 (by decide) ?_
        refine gsPi (As := [.int (nI i), .int 2]) (rest := [.ref (A 1)]) ⟨hx, hb, hml, hown, hts⟩ (c_X5_at l E i 2) (va_cwS 2 hts gX5_start_X5_at rfl rfl rfl (by decide +kernel) ⟨Nat.le_of_ble_eq_true rfl, Nat.le_of_ble_eq_true rfl⟩) hP hK hD hN hS hA rfl hl.1 rfl (Nat.le_of_ble_eq_true rfl) dX5_start_104 ⟨Nat.le_refl _, Nat.le_refl _⟩ (fun H locs hP hD hS => ?_)
        refine lv_iconst (v := 0) hx hb dX5_start_107 (by decide) ?_
        refine gast hx hb hK hP hD hS 1 rfl (35 + 7 * i + 2) (rfl) (by omega) (by decide) dX5_start_108 (fun H locs hP hD hS => ?_)
        have hP : va_P E.1 vwCl (wM E A (upd G 0 0) (upd z1 (35 + 7 * i + 2) 0) a t r h) H := hP
        have hD : va_D _ (wM E A (upd G 0 0) (upd z1 (35 + 7 * i + 2) 0) a t r h) := hD
        refine lv_iinc (v := nI (i + 1)) (lv' := [(1, .int (nI (i + 1))), (0, .ref (A 0))]) hx hb dX5_start_109 hl (k := 0) rfl (nI_1 _) (by decide) rfl (fun ls hl => ?_)
        refine lv_goto (tgt := 87) hx hb dX5_start_112 (by decide) ?_
        exact ih (i + 1) (upd z1 (35 + 7 * i + 2) 0) H locs ls (by omega) ((pk_un (by omega)).trans h1) (hfn) hP hD hS (lv_sub hl [0, 1] rfl)
    exact L_87 (nOf z) (0) (upd (upd (upd (upd (upd (upd z 20 1) 18 (z 17)) 19 0) 29 0) 30 0) 16 (z 15)) H locs ls (by omega) (hz.1) rfl hP hD hS (lv_sub hl [0, 1] rfl)
  · refine lv_iconst (v := 1) hx hb dX5_start_8 (by decide) ?_
    refine lv_goto (tgt := 13) hx hb dX5_start_9 (by decide) ?_
    refine va_put (D := E.1) (ci := 5) (v := .int 1) (ty := .int) (C := RX5) (T := TX5) (N := 15) hx hb hts hiX5 tyX5 tyX5_ok nmX5 hown hK hP hD hS 0 rfl rfl 0 (by decide) hf26 (fun _ h9 => h9) rfl (by decide +kernel) rfl rfl (Nat.le_of_ble_eq_true rfl) dX5_start_13 (fun H locs hP hD hS => ?_)
    have hP : va_P E.1 vwCl (wM E A (upd G 0 1) z a t r h) H := hP
    have hD : va_D _ (wM E A (upd G 0 1) z a t r h) := hD
    refine lv_aload_n hx hb dX5_start_16 rfl (lv_at hl 0 rfl) ?_
    refine va_get (D := E.1) (ci := 5) (v := .int 1) (C := RX5) (T := TX5) (N := 15) hx hb hts hiX5 hown hK hP 0 rfl rfl 0 (by decide) hf26 (fun _ h9 => h9) rfl dX5_start_17 ?_
    refine lv_if_le (tgt := 25) hx hb dX5_start_20 (by decide) (fun c_20 => absurd c_20 (by decide)) (fun c_20 => ?_)
    refine lv_iconst (v := 0) hx hb dX5_start_23 (by decide) ?_
    exact greti hx hb hr hlocks hP hD hS (by simp only [if_neg c_5, if_neg c_20]) (by simp only [if_neg c_5, if_neg c_20]) dX5_start_24

set_option maxHeartbeats 4000000 in
set_option maxRecDepth 100000 in
theorem c_X5_stop (l : Launch) (E : EE) (A : Nat → Nat) (G z a t r : Nat → Int32) (h : Int64) (hz : zOK z) : GM l yX5_stop wsX5_stop 2 43 E (wM E A G z a t r h) [.ref (A 0)] (wM E A (upd G 0 0) (stopTo 0 z) a t r h) (some (.int (z 20))) := by
  intro sz
  refine Met.ofW (cc := cX5_stop) (maxL := 2) (ret := (some .int)) (by decide) rfl ?_
  intro p e s m args below meth c s₁ B hml hv
  obtain ⟨rfl, rfl, hP, hK, hD0, hN⟩ := hv
  have hx := B.exec
  have hb := B.bytes
  have hr := B.returns
  have hts := atoms_spec (ws := wsX5_stop) B.pre
  have hown : s.vm.findClass RX5 = some m.cls := findClass_of_methodNamed B.named
  have hlocks := B.notSynchronized
  have hD := hD0.self (sz := s.heap.size)
  have hA : ∀ q : Nat, s.heap.size ≤ q → va_A (wM E A G z a t r h) s.heap.size q := fun q h => Or.inr h
  have hS : va_S (va_A (wM E A G z a t r h) s.heap.size) s.heap s.heap [] := va_S.rf
  have hl := lv_entry ([.ref (A 0)]) (n := 2) (Nat.le_of_ble_eq_true rfl)
  rw [lg_entry_eq]
  generalize (lg_sl ([.ref (A 0)]) ++ List.replicate (2 - (lg_sl ([.ref (A 0)])).length) Slot.unset).toArray = ls at hl ⊢
  have hl : lv_has ls 2 [(0, .ref (A 0))] := hl
  have hf26 := hts (.fieldLink RX5 26 "PhaseConverterModel" "thrown" "I") (List.mem_of_getElem? (i := 1) rfl)
  have hf7 := hts (.fieldLink RX5 7 "PhaseConverterModel" "z" "[I") (List.mem_of_getElem? (i := 2) rfl)
  have hiX5 : ∀ w ∈ u_ws RX5 TX5 15, w ∈ wsX5_stop := memIn [11, 12, 13, 14, 15, 16, 17, 18, 19, 20, 21, 22, 23, 24, 25] rfl
  refine lv_aload_n hx hb dX5_stop_0 rfl (lv_at hl 0 rfl) ?_
  refine lv_iconst (v := 0) hx hb dX5_stop_1 (by decide) ?_
  refine va_put (D := E.1) (ci := 5) (v := .int 0) (ty := .int) (C := RX5) (T := TX5) (N := 15) hx hb hts hiX5 tyX5 tyX5_ok nmX5 hown hK hP hD hS 0 rfl rfl 0 (by decide) hf26 (fun _ h9 => h9) rfl (by decide +kernel) rfl rfl (Nat.le_of_ble_eq_true rfl) dX5_stop_2 (fun H locs hP hD hS => ?_)
  have hP : va_P E.1 vwCl (wM E A (upd G 0 0) z a t r h) H := hP
  have hD : va_D _ (wM E A (upd G 0 0) z a t r h) := hD
  refine lv_aload_n hx hb dX5_stop_5 rfl (lv_at hl 0 rfl) ?_
  refine va_get (D := E.1) (ci := 5) (v := .ref (A 1)) (C := RX5) (T := TX5) (N := 15) hx hb hts hiX5 hown hK hP 0 rfl rfl 1 (by decide) hf7 (fun _ h9 => h9) rfl dX5_stop_6 ?_
  refine lv_bipush (v := 20) hx hb dX5_stop_9 (by decide) ?_
  refine gald (x := z 20) hx hb hK hP 1 rfl 20 (rfl) (by decide) (by decide) rfl dX5_stop_11 ?_
  refine lv_istore_n (lv' := [(1, .int (z 20)), (0, .ref (A 0))]) hx hb dX5_stop_12 rfl hl (by decide) rfl (fun ls hl => ?_)
  refine lv_aload_n hx hb dX5_stop_13 rfl (lv_at hl 1 rfl) ?_
  refine lv_iconst (v := 0) hx hb dX5_stop_14 (by decide) ?_
  refine gv0v (As := [.int 0]) (rest := []) ⟨hx, hb, hml, hown, hts⟩ (c_X5_stopTo l E A (upd G 0 0) z a t r h 0 hz) (cwV 1 hts gX5_stop_X5_stopTo rfl rfl rfl (by decide +kernel) ⟨Nat.le_of_ble_eq_true rfl, Nat.le_of_ble_eq_true rfl⟩) (va_recv hK hP (ci := 5) (q0 := 0) rfl rfl) hP hK hD hN hS hA rfl hl.1 rfl (Nat.le_of_ble_eq_true rfl) dX5_stop_15 ⟨Nat.le_refl _, Nat.le_refl _⟩ (fun H locs hP hD hS => ?_)
  have hP : va_P E.1 vwCl (wM E A (upd G 0 0) (stopTo 0 z) a t r h) H := hP
  have hD : va_D _ (wM E A (upd G 0 0) (stopTo 0 z) a t r h) := hD
  refine lv_iload_n hx hb dX5_stop_18 rfl (lv_at hl 0 rfl) ?_
  exact greti hx hb hr hlocks hP hD hS (rfl) (rfl) dX5_stop_19

set_option maxHeartbeats 4000000 in
set_option maxRecDepth 100000 in
theorem c_X5_run (l : Launch) (E : EE) (A : Nat → Nat) (G z a t r : Nat → Int32) (h : Int64) (v1 : Int32) (hz : zOK z) : GM l yX5_run wsX5_run 5 118 E (wM E A G z a t r h) [.ref (A 0), .int v1] (wM E A ((runF v1 z G).2) ((runF v1 z G).1) a t r h) (some (.int (runR v1 z G))) := by
  intro sz
  refine Met.ofW (cc := cX5_run) (maxL := 3) (ret := (some .int)) (by decide) rfl ?_
  intro p e s m args below meth c s₁ B hml hv
  obtain ⟨rfl, rfl, hP, hK, hD0, hN⟩ := hv
  have hx := B.exec
  have hb := B.bytes
  have hr := B.returns
  have hts := atoms_spec (ws := wsX5_run) B.pre
  have hown : s.vm.findClass RX5 = some m.cls := findClass_of_methodNamed B.named
  have hlocks := B.notSynchronized
  have hD := hD0.self (sz := s.heap.size)
  have hA : ∀ q : Nat, s.heap.size ≤ q → va_A (wM E A G z a t r h) s.heap.size q := fun q h => Or.inr h
  have hS : va_S (va_A (wM E A G z a t r h) s.heap.size) s.heap s.heap [] := va_S.rf
  have hl := lv_entry ([.ref (A 0), .int v1]) (n := 3) (Nat.le_of_ble_eq_true rfl)
  rw [lg_entry_eq]
  generalize (lg_sl ([.ref (A 0), .int v1]) ++ List.replicate (3 - (lg_sl ([.ref (A 0), .int v1])).length) Slot.unset).toArray = ls at hl ⊢
  have hl : lv_has ls 3 [(0, .ref (A 0)), (1, .int v1)] := hl
  have hf26 := hts (.fieldLink RX5 26 "PhaseConverterModel" "thrown" "I") (List.mem_of_getElem? (i := 3) rfl)
  have hf7 := hts (.fieldLink RX5 7 "PhaseConverterModel" "z" "[I") (List.mem_of_getElem? (i := 1) rfl)
  have hiX5 : ∀ w ∈ u_ws RX5 TX5 15, w ∈ wsX5_run := memIn [72, 73, 74, 75, 76, 77, 78, 79, 80, 81, 82, 83, 84, 85, 86] rfl
  refine lv_aload_n hx hb dX5_run_0 rfl (lv_at hl 0 rfl) ?_
  refine lv_iload_n hx hb dX5_run_1 rfl (lv_at hl 1 rfl) ?_
  refine lv_iconst (v := 1) hx hb dX5_run_2 (by decide) ?_
  refine lv_sipush (v := 200) hx hb dX5_run_3 (by decide) ?_
  refine gsPi (As := [.int v1, .int 1, .int 200]) (rest := [.ref (A 0)]) ⟨hx, hb, hml, hown, hts⟩ (c_X5_within l E v1 1 200) (va_cwS 3 hts gX5_run_X5_within rfl rfl rfl (by decide +kernel) ⟨Nat.le_of_ble_eq_true rfl, Nat.le_of_ble_eq_true rfl⟩) hP hK hD hN hS hA rfl hl.1 rfl (Nat.le_of_ble_eq_true rfl) dX5_run_6 ⟨Nat.le_refl _, Nat.le_refl _⟩ (fun H locs hP hD hS => ?_)
  refine lv_if_ne (tgt := 16) hx hb dX5_run_9 (by decide) (fun c_9 => ?_) (fun c_9 => ?_)
  · have hvv : nI v1.toNatClampNeg = v1 := (inRg_ix1 (n := 200) rfl c_9).1
    have hvl : v1.toNatClampNeg ≤ 200 := (inRg_ix1 (n := 200) rfl c_9).2.1
    refine lv_aload_n hx hb dX5_run_16 rfl (lv_at hl 0 rfl) ?_
    refine va_get (D := E.1) (ci := 5) (v := .ref (A 1)) (C := RX5) (T := TX5) (N := 15) hx hb hts hiX5 hown hK hP 0 rfl rfl 1 (by decide) hf7 (fun _ h9 => h9) rfl dX5_run_17 ?_
    refine lv_bipush (v := 24) hx hb dX5_run_20 (by decide) ?_
    refine gald (x := z 24) hx hb hK hP 1 rfl 24 (rfl) (by decide) (by decide) rfl dX5_run_22 ?_
    refine lv_iload_n hx hb dX5_run_23 rfl (lv_at hl 1 rfl) ?_
    refine lv_iadd hx hb dX5_run_24 ?_
    refine lv_ldc (own := RX5) (v := 100000) hx hb hown (hts (.constant RX5 40 (100000)) (List.mem_of_getElem? (i := 2) rfl)) dX5_run_25 ?_
    refine lv_icmp_le (tgt := 34) hx hb dX5_run_27 (by decide) (fun c_27 => ?_) (fun c_27 => ?_)
    · refine lv_iconst (v := 0) hx hb dX5_run_34 (by decide) ?_
      refine va_put (D := E.1) (ci := 5) (v := .int 0) (ty := .int) (C := RX5) (T := TX5) (N := 15) hx hb hts hiX5 tyX5 tyX5_ok nmX5 hown hK hP hD hS 0 rfl rfl 0 (by decide) hf26 (fun _ h9 => h9) rfl (by decide +kernel) rfl rfl (Nat.le_of_ble_eq_true rfl) dX5_run_35 (fun H locs hP hD hS => ?_)
      have hP : va_P E.1 vwCl (wM E A (upd G 0 0) z a t r h) H := hP
      have hD : va_D _ (wM E A (upd G 0 0) z a t r h) := hD
      refine lv_aload_n hx hb dX5_run_38 rfl (lv_at hl 0 rfl) ?_
      refine va_get (D := E.1) (ci := 5) (v := .int 0) (C := RX5) (T := TX5) (N := 15) hx hb hts hiX5 hown hK hP 0 rfl rfl 0 (by decide) hf26 (fun _ h9 => h9) rfl dX5_run_39 ?_
      refine lv_if_le (tgt := 47) hx hb dX5_run_42 (by decide) (fun c_42 => ?_) (fun c_42 => absurd (by decide) c_42)
      refine lv_aload_n hx hb dX5_run_47 rfl (lv_at hl 0 rfl) ?_
      refine gv0v (As := []) (rest := []) ⟨hx, hb, hml, hown, hts⟩ (c_X5_layExtremes l E A (upd G 0 0) z a t r h) (cwV 0 hts gX5_run_X5_layExtremes rfl rfl rfl (by decide +kernel) ⟨Nat.le_of_ble_eq_true rfl, Nat.le_of_ble_eq_true rfl⟩) (va_recv hK hP (ci := 5) (q0 := 0) rfl rfl) hP hK hD hN hS hA rfl hl.1 rfl (Nat.le_of_ble_eq_true rfl) dX5_run_48 ⟨Nat.le_refl _, Nat.le_refl _⟩ (fun H locs hP hD hS => ?_)
      have hP : va_P E.1 vwCl (wM E A (layE (upd G 0 0)) z a t r h) H := hP
      have hD : va_D _ (wM E A (layE (upd G 0 0)) z a t r h) := hD
      refine lv_iconst (v := 0) hx hb dX5_run_51 (by decide) ?_
      refine lv_istore_n (lv' := [(2, .int 0), (0, .ref (A 0)), (1, .int v1)]) hx hb dX5_run_52 rfl hl (by decide) rfl (fun ls hl => ?_)
      have L_53 : ∀ (n i : Nat) (z1 : Nat → Int32) (G1 : Nat → Int32) (H : Heap) (locs : List Loc) (ls : Array Slot), (i + n = v1.toNatClampNeg) → (zOK z1) → (runL n z1 G1 = runL v1.toNatClampNeg z (layE (upd G 0 0))) → va_P E.1 vwCl (wM E A G1 z1 a t r h) H → va_D (va_A (wM E A G z a t r h) s.heap.size) (wM E A G1 z1 a t r h) → va_S (va_A (wM E A G z a t r h) s.heap.size) s.heap H locs → lv_has ls 3 [(2, .int (nI i)), (0, .ref (A 0)), (1, .int v1)] → W p l e (gR wsX5_run 5 118) s m ([.ref (A 0), .int v1] : List Value).toArray below meth c H locs 0 0 (gMQ below E s (wM E A G z a t r h) (wM E A ((runF v1 z G).2) ((runF v1 z G).1) a t r h) (some (.int (runR v1 z G))) [.ref (A 0), .int v1]) (F0 m 53 ls []) := by
        intro n
        induction n with
        | zero =>
          intro i z1 G1 H locs ls hin h1 hfn hP hD hS hl
          have hf : (z1, G1) = runL v1.toNatClampNeg z (layE (upd G 0 0)) := hfn
          refine lv_iload_n hx hb dX5_run_53 rfl (lv_at hl 0 rfl) ?_
          refine lv_iload_n hx hb dX5_run_54 rfl (lv_at hl 2 rfl) ?_
          refine lv_icmp_ge (tgt := 68) hx hb dX5_run_55 (by decide) (fun c_55 => ?_) (fun c_55 => absurd (by rw [← hvv]; exact nI_le (by omega) (by omega)) c_55)
          refine lv_aload_n hx hb dX5_run_68 rfl (lv_at hl 1 rfl) ?_
          refine va_get (D := E.1) (ci := 5) (v := .ref (A 1)) (C := RX5) (T := TX5) (N := 15) hx hb hts hiX5 hown hK hP 0 rfl rfl 1 (by decide) hf7 (fun _ h9 => h9) rfl dX5_run_69 ?_
          refine lv_bipush (v := 17) hx hb dX5_run_72 (by decide) ?_
          refine gald (x := z1 17) hx hb hK hP 1 rfl 17 (rfl) (by decide) (by decide) rfl dX5_run_74 ?_
          exact greti hx hb hr hlocks hP hD hS (by simp only [runR, runF, if_neg c_9, if_pos c_27, ← hf]) (by simp only [runF, if_neg c_9, if_pos c_27, ← hf]) dX5_run_75
        | succ n ih =>
          intro i z1 G1 H locs ls hin h1 hfn hP hD hS hl
          refine lv_iload_n hx hb dX5_run_53 rfl (lv_at hl 0 rfl) ?_
          refine lv_iload_n hx hb dX5_run_54 rfl (lv_at hl 2 rfl) ?_
          refine lv_icmp_ge (tgt := 68) hx hb dX5_run_55 (by decide) (fun c_55 => absurd c_55 (by rw [← hvv]; exact nI_ge (by omega) (by omega))) (fun c_55 => ?_)
          refine lv_aload_n hx hb dX5_run_58 rfl (lv_at hl 1 rfl) ?_
          refine gv0v (As := []) (rest := []) ⟨hx, hb, hml, hown, hts⟩ (c_X5_cycle l E A G1 z1 a t r h h1) (cwV 0 hts gX5_run_X5_cycle rfl rfl rfl (by decide +kernel) ⟨Nat.le_of_ble_eq_true rfl, Nat.le_of_ble_eq_true rfl⟩) (va_recv hK hP (ci := 5) (q0 := 0) rfl rfl) hP hK hD hN hS hA rfl hl.1 rfl (Nat.le_of_ble_eq_true rfl) dX5_run_59 ⟨Nat.le_refl _, Nat.le_refl _⟩ (fun H locs hP hD hS => ?_)
          have hP : va_P E.1 vwCl (wM E A ((cycle z1 G1).2) ((cycle z1 G1).1) a t r h) H := hP
          have hD : va_D _ (wM E A ((cycle z1 G1).2) ((cycle z1 G1).1) a t r h) := hD
          refine lv_iinc (v := nI (i + 1)) (lv' := [(2, .int (nI (i + 1))), (0, .ref (A 0)), (1, .int v1)]) hx hb dX5_run_62 hl (k := 0) rfl (nI_1 _) (by decide) rfl (fun ls hl => ?_)
          refine lv_goto (tgt := 53) hx hb dX5_run_65 (by decide) ?_
          exact ih (i + 1) ((cycle z1 G1).1) ((cycle z1 G1).2) H locs ls (by omega) (cycle_OK h1) (hfn) hP hD hS (lv_sub hl [0, 1, 2] rfl)
      exact L_53 (v1.toNatClampNeg) (0) z (layE (upd G 0 0)) H locs ls (by omega) (hz) rfl hP hD hS (lv_sub hl [0, 1, 2] rfl)
    · refine lv_iconst (v := 2) hx hb dX5_run_30 (by decide) ?_
      refine lv_goto (tgt := 35) hx hb dX5_run_31 (by decide) ?_
      refine va_put (D := E.1) (ci := 5) (v := .int 2) (ty := .int) (C := RX5) (T := TX5) (N := 15) hx hb hts hiX5 tyX5 tyX5_ok nmX5 hown hK hP hD hS 0 rfl rfl 0 (by decide) hf26 (fun _ h9 => h9) rfl (by decide +kernel) rfl rfl (Nat.le_of_ble_eq_true rfl) dX5_run_35 (fun H locs hP hD hS => ?_)
      have hP : va_P E.1 vwCl (wM E A (upd G 0 2) z a t r h) H := hP
      have hD : va_D _ (wM E A (upd G 0 2) z a t r h) := hD
      refine lv_aload_n hx hb dX5_run_38 rfl (lv_at hl 0 rfl) ?_
      refine va_get (D := E.1) (ci := 5) (v := .int 2) (C := RX5) (T := TX5) (N := 15) hx hb hts hiX5 hown hK hP 0 rfl rfl 0 (by decide) hf26 (fun _ h9 => h9) rfl dX5_run_39 ?_
      refine lv_if_le (tgt := 47) hx hb dX5_run_42 (by decide) (fun c_42 => absurd c_42 (by decide)) (fun c_42 => ?_)
      refine lv_iconst (v := 0) hx hb dX5_run_45 (by decide) ?_
      exact greti hx hb hr hlocks hP hD hS (by simp only [runR, if_neg c_9, if_neg c_27, if_neg c_42]) (by simp only [runF, if_neg c_9, if_neg c_27, if_neg c_42]) dX5_run_46
  · refine lv_iconst (v := 1) hx hb dX5_run_12 (by decide) ?_
    refine lv_goto (tgt := 35) hx hb dX5_run_13 (by decide) ?_
    refine va_put (D := E.1) (ci := 5) (v := .int 1) (ty := .int) (C := RX5) (T := TX5) (N := 15) hx hb hts hiX5 tyX5 tyX5_ok nmX5 hown hK hP hD hS 0 rfl rfl 0 (by decide) hf26 (fun _ h9 => h9) rfl (by decide +kernel) rfl rfl (Nat.le_of_ble_eq_true rfl) dX5_run_35 (fun H locs hP hD hS => ?_)
    have hP : va_P E.1 vwCl (wM E A (upd G 0 1) z a t r h) H := hP
    have hD : va_D _ (wM E A (upd G 0 1) z a t r h) := hD
    refine lv_aload_n hx hb dX5_run_38 rfl (lv_at hl 0 rfl) ?_
    refine va_get (D := E.1) (ci := 5) (v := .int 1) (C := RX5) (T := TX5) (N := 15) hx hb hts hiX5 hown hK hP 0 rfl rfl 0 (by decide) hf26 (fun _ h9 => h9) rfl dX5_run_39 ?_
    refine lv_if_le (tgt := 47) hx hb dX5_run_42 (by decide) (fun c_42 => absurd c_42 (by decide)) (fun c_42 => ?_)
    refine lv_iconst (v := 0) hx hb dX5_run_45 (by decide) ?_
    exact greti hx hb hr hlocks hP hD hS (by simp only [runR, if_pos c_9, if_neg c_42]) (by simp only [runF, if_pos c_9, if_neg c_42]) dX5_run_46

set_option maxHeartbeats 4000000 in
set_option maxRecDepth 100000 in
theorem c_X5_append (l : Launch) (E : EE) (A : Nat → Nat) (G z a t r : Nat → Int32) (h : Int64) (v1 : Int32) (L : Nat) (hL : G 3 = nI L) (hL5 : L ≤ 50) : GM l yX5_append wsX5_append 1 22 E (wM E A G z a t r h) [.ref (A 0), .int v1] (wM E A (if inRg v1 33 126 = 0 then upd G 0 1 else (if G 3 = 50 then upd G 0 2 else upd (upd G 0 0) 3 (G 3 + 1))) z a (if inRg v1 33 126 = 0 then t else (if G 3 = 50 then t else upd t L v1)) r h) (some (.int (if inRg v1 33 126 = 0 then 0 else (if G 3 = 50 then 0 else G 3 + 1)))) := by
  intro sz
  refine Met.ofW (cc := cX5_append) (maxL := 2) (ret := (some .int)) (by decide) rfl ?_
  intro p e s m args below meth c s₁ B hml hv
  obtain ⟨rfl, rfl, hP, hK, hD0, hN⟩ := hv
  have hx := B.exec
  have hb := B.bytes
  have hr := B.returns
  have hts := atoms_spec (ws := wsX5_append) B.pre
  have hown : s.vm.findClass RX5 = some m.cls := findClass_of_methodNamed B.named
  have hlocks := B.notSynchronized
  have hD := hD0.self (sz := s.heap.size)
  have hA : ∀ q : Nat, s.heap.size ≤ q → va_A (wM E A G z a t r h) s.heap.size q := fun q h => Or.inr h
  have hS : va_S (va_A (wM E A G z a t r h) s.heap.size) s.heap s.heap [] := va_S.rf
  have hl := lv_entry ([.ref (A 0), .int v1]) (n := 2) (Nat.le_of_ble_eq_true rfl)
  rw [lg_entry_eq]
  generalize (lg_sl ([.ref (A 0), .int v1]) ++ List.replicate (2 - (lg_sl ([.ref (A 0), .int v1])).length) Slot.unset).toArray = ls at hl ⊢
  have hl : lv_has ls 2 [(0, .ref (A 0)), (1, .int v1)] := hl
  have hf111 := hts (.fieldLink RX5 111 "PhaseConverterModel" "length" "I") (List.mem_of_getElem? (i := 1) rfl)
  have hf16 := hts (.fieldLink RX5 16 "PhaseConverterModel" "text" "[I") (List.mem_of_getElem? (i := 3) rfl)
  have hf26 := hts (.fieldLink RX5 26 "PhaseConverterModel" "thrown" "I") (List.mem_of_getElem? (i := 2) rfl)
  have hiX5 : ∀ w ∈ u_ws RX5 TX5 15, w ∈ wsX5_append := memIn [8, 9, 10, 11, 12, 13, 14, 15, 16, 17, 18, 19, 20, 21, 22] rfl
  refine lv_aload_n hx hb dX5_append_0 rfl (lv_at hl 0 rfl) ?_
  refine lv_iload_n hx hb dX5_append_1 rfl (lv_at hl 1 rfl) ?_
  refine lv_bipush (v := 33) hx hb dX5_append_2 (by decide) ?_
  refine lv_bipush (v := 126) hx hb dX5_append_4 (by decide) ?_
  refine gsPi (As := [.int v1, .int 33, .int 126]) (rest := [.ref (A 0)]) ⟨hx, hb, hml, hown, hts⟩ (c_X5_within l E v1 33 126) (va_cwS 3 hts gX5_append_X5_within rfl rfl rfl (by decide +kernel) ⟨Nat.le_of_ble_eq_true rfl, Nat.le_of_ble_eq_true rfl⟩) hP hK hD hN hS hA rfl hl.1 rfl (Nat.le_of_ble_eq_true rfl) dX5_append_6 ⟨Nat.le_refl _, Nat.le_refl _⟩ (fun H locs hP hD hS => ?_)
  refine lv_if_ne (tgt := 16) hx hb dX5_append_9 (by decide) (fun c_9 => ?_) (fun c_9 => ?_)
  · refine lv_aload_n hx hb dX5_append_16 rfl (lv_at hl 0 rfl) ?_
    refine va_get (D := E.1) (ci := 5) (v := .int (G 3)) (C := RX5) (T := TX5) (N := 15) hx hb hts hiX5 hown hK hP 0 rfl rfl 3 (by decide) hf111 (fun _ h9 => h9) rfl dX5_append_17 ?_
    refine lv_bipush (v := 50) hx hb dX5_append_20 (by decide) ?_
    refine lv_icmp_ne (tgt := 29) hx hb dX5_append_22 (by decide) (fun c_22 => ?_) (fun c_22 => ?_)
    · have hLt : L < 50 := by rcases Nat.lt_or_ge L 50 with q | q; exact q; exact absurd (by rw [hL, show L = 50 by omega]; rfl) c_22
      refine lv_iconst (v := 0) hx hb dX5_append_29 (by decide) ?_
      refine va_put (D := E.1) (ci := 5) (v := .int 0) (ty := .int) (C := RX5) (T := TX5) (N := 15) hx hb hts hiX5 tyX5 tyX5_ok nmX5 hown hK hP hD hS 0 rfl rfl 0 (by decide) hf26 (fun _ h9 => h9) rfl (by decide +kernel) rfl rfl (Nat.le_of_ble_eq_true rfl) dX5_append_30 (fun H locs hP hD hS => ?_)
      have hP : va_P E.1 vwCl (wM E A (upd G 0 0) z a t r h) H := hP
      have hD : va_D _ (wM E A (upd G 0 0) z a t r h) := hD
      refine lv_aload_n hx hb dX5_append_33 rfl (lv_at hl 0 rfl) ?_
      refine va_get (D := E.1) (ci := 5) (v := .int 0) (C := RX5) (T := TX5) (N := 15) hx hb hts hiX5 hown hK hP 0 rfl rfl 0 (by decide) hf26 (fun _ h9 => h9) rfl dX5_append_34 ?_
      refine lv_if_le (tgt := 42) hx hb dX5_append_37 (by decide) (fun c_37 => ?_) (fun c_37 => absurd (by decide) c_37)
      refine lv_aload_n hx hb dX5_append_42 rfl (lv_at hl 0 rfl) ?_
      refine va_get (D := E.1) (ci := 5) (v := .ref (A 3)) (C := RX5) (T := TX5) (N := 15) hx hb hts hiX5 hown hK hP 0 rfl rfl 4 (by decide) hf16 (fun _ h9 => h9) rfl dX5_append_43 ?_
      refine lv_aload_n hx hb dX5_append_46 rfl (lv_at hl 0 rfl) ?_
      refine va_get (D := E.1) (ci := 5) (v := .int (G 3)) (C := RX5) (T := TX5) (N := 15) hx hb hts hiX5 hown hK hP 0 rfl rfl 3 (by decide) hf111 (fun _ h9 => h9) rfl dX5_append_47 ?_
      refine lv_iload_n hx hb dX5_append_50 rfl (lv_at hl 1 rfl) ?_
      refine gast hx hb hK hP hD hS 3 rfl L (hL) (by omega) (by decide) dX5_append_51 (fun H locs hP hD hS => ?_)
      have hP : va_P E.1 vwCl (wM E A (upd G 0 0) z a (upd t L v1) r h) H := hP
      have hD : va_D _ (wM E A (upd G 0 0) z a (upd t L v1) r h) := hD
      refine lv_aload_n hx hb dX5_append_52 rfl (lv_at hl 0 rfl) ?_
      refine lv_dup hx hb dX5_append_53 rfl ?_
      refine va_get (D := E.1) (ci := 5) (v := .int (G 3)) (C := RX5) (T := TX5) (N := 15) hx hb hts hiX5 hown hK hP 0 rfl rfl 3 (by decide) hf111 (fun _ h9 => h9) rfl dX5_append_54 ?_
      refine lv_iconst (v := 1) hx hb dX5_append_57 (by decide) ?_
      refine lv_iadd hx hb dX5_append_58 ?_
      refine va_put (D := E.1) (ci := 5) (v := .int ((G 3) + 1)) (ty := .int) (C := RX5) (T := TX5) (N := 15) hx hb hts hiX5 tyX5 tyX5_ok nmX5 hown hK hP hD hS 0 rfl rfl 3 (by decide) hf111 (fun _ h9 => h9) rfl (by decide +kernel) rfl rfl (Nat.le_of_ble_eq_true rfl) dX5_append_59 (fun H locs hP hD hS => ?_)
      have hP : va_P E.1 vwCl (wM E A (upd (upd G 0 0) 3 ((G 3) + 1)) z a (upd t L v1) r h) H := hP
      have hD : va_D _ (wM E A (upd (upd G 0 0) 3 ((G 3) + 1)) z a (upd t L v1) r h) := hD
      refine lv_aload_n hx hb dX5_append_62 rfl (lv_at hl 0 rfl) ?_
      refine va_get (D := E.1) (ci := 5) (v := .int ((G 3) + 1)) (C := RX5) (T := TX5) (N := 15) hx hb hts hiX5 hown hK hP 0 rfl rfl 3 (by decide) hf111 (fun _ h9 => h9) rfl dX5_append_63 ?_
      exact greti hx hb hr hlocks hP hD hS (by simp only [if_neg c_9, if_neg c_22, if_pos c_37]) (by simp only [if_neg c_9, if_neg c_22, if_pos c_37]) dX5_append_66
    · refine lv_iconst (v := 2) hx hb dX5_append_25 (by decide) ?_
      refine lv_goto (tgt := 30) hx hb dX5_append_26 (by decide) ?_
      refine va_put (D := E.1) (ci := 5) (v := .int 2) (ty := .int) (C := RX5) (T := TX5) (N := 15) hx hb hts hiX5 tyX5 tyX5_ok nmX5 hown hK hP hD hS 0 rfl rfl 0 (by decide) hf26 (fun _ h9 => h9) rfl (by decide +kernel) rfl rfl (Nat.le_of_ble_eq_true rfl) dX5_append_30 (fun H locs hP hD hS => ?_)
      have hP : va_P E.1 vwCl (wM E A (upd G 0 2) z a t r h) H := hP
      have hD : va_D _ (wM E A (upd G 0 2) z a t r h) := hD
      refine lv_aload_n hx hb dX5_append_33 rfl (lv_at hl 0 rfl) ?_
      refine va_get (D := E.1) (ci := 5) (v := .int 2) (C := RX5) (T := TX5) (N := 15) hx hb hts hiX5 hown hK hP 0 rfl rfl 0 (by decide) hf26 (fun _ h9 => h9) rfl dX5_append_34 ?_
      refine lv_if_le (tgt := 42) hx hb dX5_append_37 (by decide) (fun c_37 => absurd c_37 (by decide)) (fun c_37 => ?_)
      refine lv_iconst (v := 0) hx hb dX5_append_40 (by decide) ?_
      exact greti hx hb hr hlocks hP hD hS (by simp only [if_neg c_9, if_pos c_22, if_neg c_37]) (by simp only [if_neg c_9, if_pos c_22, if_neg c_37]) dX5_append_41
  · refine lv_iconst (v := 1) hx hb dX5_append_12 (by decide) ?_
    refine lv_goto (tgt := 30) hx hb dX5_append_13 (by decide) ?_
    refine va_put (D := E.1) (ci := 5) (v := .int 1) (ty := .int) (C := RX5) (T := TX5) (N := 15) hx hb hts hiX5 tyX5 tyX5_ok nmX5 hown hK hP hD hS 0 rfl rfl 0 (by decide) hf26 (fun _ h9 => h9) rfl (by decide +kernel) rfl rfl (Nat.le_of_ble_eq_true rfl) dX5_append_30 (fun H locs hP hD hS => ?_)
    have hP : va_P E.1 vwCl (wM E A (upd G 0 1) z a t r h) H := hP
    have hD : va_D _ (wM E A (upd G 0 1) z a t r h) := hD
    refine lv_aload_n hx hb dX5_append_33 rfl (lv_at hl 0 rfl) ?_
    refine va_get (D := E.1) (ci := 5) (v := .int 1) (C := RX5) (T := TX5) (N := 15) hx hb hts hiX5 hown hK hP 0 rfl rfl 0 (by decide) hf26 (fun _ h9 => h9) rfl dX5_append_34 ?_
    refine lv_if_le (tgt := 42) hx hb dX5_append_37 (by decide) (fun c_37 => absurd c_37 (by decide)) (fun c_37 => ?_)
    refine lv_iconst (v := 0) hx hb dX5_append_40 (by decide) ?_
    exact greti hx hb hr hlocks hP hD hS (by simp only [if_pos c_9, if_neg c_37]) (by simp only [if_pos c_9, if_neg c_37]) dX5_append_41

set_option maxHeartbeats 4000000 in
set_option maxRecDepth 100000 in
theorem c_X5_clearBuffer (l : Launch) (E : EE) (A : Nat → Nat) (G z a t r : Nat → Int32) (h : Int64) : GM l yX5_clearBuffer wsX5_clearBuffer 0 0 E (wM E A G z a t r h) [.ref (A 0)] (wM E A (upd (upd G 0 0) 3 0) z a t r h) (some (.int (G 3))) := by
  intro sz
  refine Met.ofW (cc := cX5_clearBuffer) (maxL := 2) (ret := (some .int)) (by decide) rfl ?_
  intro p e s m args below meth c s₁ B hml hv
  obtain ⟨rfl, rfl, hP, hK, hD0, hN⟩ := hv
  have hx := B.exec
  have hb := B.bytes
  have hr := B.returns
  have hts := atoms_spec (ws := wsX5_clearBuffer) B.pre
  have hown : s.vm.findClass RX5 = some m.cls := findClass_of_methodNamed B.named
  have hlocks := B.notSynchronized
  have hD := hD0.self (sz := s.heap.size)
  have hA : ∀ q : Nat, s.heap.size ≤ q → va_A (wM E A G z a t r h) s.heap.size q := fun q h => Or.inr h
  have hS : va_S (va_A (wM E A G z a t r h) s.heap.size) s.heap s.heap [] := va_S.rf
  have hl := lv_entry ([.ref (A 0)]) (n := 2) (Nat.le_of_ble_eq_true rfl)
  rw [lg_entry_eq]
  generalize (lg_sl ([.ref (A 0)]) ++ List.replicate (2 - (lg_sl ([.ref (A 0)])).length) Slot.unset).toArray = ls at hl ⊢
  have hl : lv_has ls 2 [(0, .ref (A 0))] := hl
  have hf111 := hts (.fieldLink RX5 111 "PhaseConverterModel" "length" "I") (List.mem_of_getElem? (i := 2) rfl)
  have hf26 := hts (.fieldLink RX5 26 "PhaseConverterModel" "thrown" "I") (List.mem_of_getElem? (i := 1) rfl)
  have hiX5 : ∀ w ∈ u_ws RX5 TX5 15, w ∈ wsX5_clearBuffer := memIn [3, 4, 5, 6, 7, 8, 9, 10, 11, 12, 13, 14, 15, 16, 17] rfl
  refine lv_aload_n hx hb dX5_clearBuffer_0 rfl (lv_at hl 0 rfl) ?_
  refine lv_iconst (v := 0) hx hb dX5_clearBuffer_1 (by decide) ?_
  refine va_put (D := E.1) (ci := 5) (v := .int 0) (ty := .int) (C := RX5) (T := TX5) (N := 15) hx hb hts hiX5 tyX5 tyX5_ok nmX5 hown hK hP hD hS 0 rfl rfl 0 (by decide) hf26 (fun _ h9 => h9) rfl (by decide +kernel) rfl rfl (Nat.le_of_ble_eq_true rfl) dX5_clearBuffer_2 (fun H locs hP hD hS => ?_)
  have hP : va_P E.1 vwCl (wM E A (upd G 0 0) z a t r h) H := hP
  have hD : va_D _ (wM E A (upd G 0 0) z a t r h) := hD
  refine lv_aload_n hx hb dX5_clearBuffer_5 rfl (lv_at hl 0 rfl) ?_
  refine va_get (D := E.1) (ci := 5) (v := .int (G 3)) (C := RX5) (T := TX5) (N := 15) hx hb hts hiX5 hown hK hP 0 rfl rfl 3 (by decide) hf111 (fun _ h9 => h9) rfl dX5_clearBuffer_6 ?_
  refine lv_istore_n (lv' := [(1, .int (G 3)), (0, .ref (A 0))]) hx hb dX5_clearBuffer_9 rfl hl (by decide) rfl (fun ls hl => ?_)
  refine lv_aload_n hx hb dX5_clearBuffer_10 rfl (lv_at hl 1 rfl) ?_
  refine lv_iconst (v := 0) hx hb dX5_clearBuffer_11 (by decide) ?_
  refine va_put (D := E.1) (ci := 5) (v := .int 0) (ty := .int) (C := RX5) (T := TX5) (N := 15) hx hb hts hiX5 tyX5 tyX5_ok nmX5 hown hK hP hD hS 0 rfl rfl 3 (by decide) hf111 (fun _ h9 => h9) rfl (by decide +kernel) rfl rfl (Nat.le_of_ble_eq_true rfl) dX5_clearBuffer_12 (fun H locs hP hD hS => ?_)
  have hP : va_P E.1 vwCl (wM E A (upd (upd G 0 0) 3 0) z a t r h) H := hP
  have hD : va_D _ (wM E A (upd (upd G 0 0) 3 0) z a t r h) := hD
  refine lv_iload_n hx hb dX5_clearBuffer_15 rfl (lv_at hl 0 rfl) ?_
  exact greti hx hb hr hlocks hP hD hS (rfl) (rfl) dX5_clearBuffer_16

set_option maxHeartbeats 4000000 in
set_option maxRecDepth 100000 in
theorem c_X5_takesSign (l : Launch) (E : EE) (A : Nat → Nat) (G z a t r : Nat → Int32) (h : Int64) (v1 : Int32) : GM l yX5_takesSign wsX5_takesSign 0 0 E (wM E A G z a t r h) [.ref (A 0), .int v1] (wM E A (tsG v1 G) z a t r h) (some (.int (isI v1))) := by
  intro sz
  refine Met.ofW (cc := cX5_takesSign) (maxL := 4) (ret := (some .boolean)) (by decide) rfl ?_
  intro p e s m args below meth c s₁ B hml hv
  obtain ⟨rfl, rfl, hP, hK, hD0, hN⟩ := hv
  have hx := B.exec
  have hb := B.bytes
  have hr := B.returns
  have hts := atoms_spec (ws := wsX5_takesSign) B.pre
  have hown : s.vm.findClass RX5 = some m.cls := findClass_of_methodNamed B.named
  have hlocks := B.notSynchronized
  have hD := hD0.self (sz := s.heap.size)
  have hA : ∀ q : Nat, s.heap.size ≤ q → va_A (wM E A G z a t r h) s.heap.size q := fun q h => Or.inr h
  have hS : va_S (va_A (wM E A G z a t r h) s.heap.size) s.heap s.heap [] := va_S.rf
  have hl := lv_entry ([.ref (A 0), .int v1]) (n := 4) (Nat.le_of_ble_eq_true rfl)
  rw [lg_entry_eq]
  generalize (lg_sl ([.ref (A 0), .int v1]) ++ List.replicate (4 - (lg_sl ([.ref (A 0), .int v1])).length) Slot.unset).toArray = ls at hl ⊢
  have hl : lv_has ls 4 [(0, .ref (A 0)), (1, .int v1)] := hl
  have hf114 := hts (.fieldLink RX5 114 "PhaseConverterModel" "sign" "I") (List.mem_of_getElem? (i := 1) rfl)
  have hf117 := hts (.fieldLink RX5 117 "PhaseConverterModel" "number" "I") (List.mem_of_getElem? (i := 2) rfl)
  have hf120 := hts (.fieldLink RX5 120 "PhaseConverterModel" "digits" "I") (List.mem_of_getElem? (i := 3) rfl)
  have hf123 := hts (.fieldLink RX5 123 "PhaseConverterModel" "step" "I") (List.mem_of_getElem? (i := 4) rfl)
  have hiX5 : ∀ w ∈ u_ws RX5 TX5 15, w ∈ wsX5_takesSign := memIn [5, 6, 7, 8, 9, 10, 11, 12, 13, 14, 15, 16, 17, 18, 19] rfl
  refine lv_iload_n hx hb dX5_takesSign_0 rfl (lv_at hl 1 rfl) ?_
  refine lv_bipush (v := 115) hx hb dX5_takesSign_1 (by decide) ?_
  obtain ⟨x_1, ex_1⟩ : ∃ y : Int32, y = (if v1 = 115 then 1 else (if v1 = 120 then 1 else 0)) := ⟨_, rfl⟩
  have fb : x_1 = bareI v1 := ex_1
  have J_3 : ∀ (H : Heap) (locs : List Loc) (ls : Array Slot), va_P E.1 vwCl (wM E A G z a t r h) H → va_D (va_A (wM E A G z a t r h) s.heap.size) (wM E A G z a t r h) → va_S (va_A (wM E A G z a t r h) s.heap.size) s.heap H locs → lv_has ls 4 [(0, .ref (A 0)), (1, .int v1)] → W p l e (gR wsX5_takesSign 0 0) s m ([.ref (A 0), .int v1] : List Value).toArray below meth c H locs 0 0 (gMQ below E s (wM E A G z a t r h) (wM E A (tsG v1 G) z a t r h) (some (.int (isI v1))) [.ref (A 0), .int v1]) (F0 m 17 ls [.int x_1]) := by
    intro H locs ls hP hD hS hl
    refine lv_istore_n (lv' := [(2, .int x_1), (0, .ref (A 0)), (1, .int v1)]) hx hb dX5_takesSign_17 rfl hl (by decide) rfl (fun ls hl => ?_)
    refine lv_iload_n hx hb dX5_takesSign_18 rfl (lv_at hl 0 rfl) ?_
    obtain ⟨x_2, ex_2⟩ : ∃ y : Int32, y = (if x_1 = 0 then (if v1 = 105 then 1 else (if v1 = 116 then 1 else (if v1 = 108 then 1 else (if v1 = 99 then 1 else (if v1 = 114 then 1 else 0))))) else 1) := ⟨_, rfl⟩
    have fi : x_2 = isI v1 := by unfold isI; rw [← fb]; exact ex_2
    have J_19 : ∀ (H : Heap) (locs : List Loc) (ls : Array Slot), va_P E.1 vwCl (wM E A G z a t r h) H → va_D (va_A (wM E A G z a t r h) s.heap.size) (wM E A G z a t r h) → va_S (va_A (wM E A G z a t r h) s.heap.size) s.heap H locs → lv_has ls 4 [(2, .int x_1), (0, .ref (A 0)), (1, .int v1)] → W p l e (gR wsX5_takesSign 0 0) s m ([.ref (A 0), .int v1] : List Value).toArray below meth c H locs 0 0 (gMQ below E s (wM E A G z a t r h) (wM E A (tsG v1 G) z a t r h) (some (.int (isI v1))) [.ref (A 0), .int v1]) (F0 m 57 ls [.int x_2]) := by
      intro H locs ls hP hD hS hl
      refine lv_istore_n (lv' := [(3, .int x_2), (2, .int x_1), (0, .ref (A 0)), (1, .int v1)]) hx hb dX5_takesSign_57 rfl hl (by decide) rfl (fun ls hl => ?_)
      refine lv_iload_n hx hb dX5_takesSign_58 rfl (lv_at hl 0 rfl) ?_
      obtain ⟨G_3, eG_3⟩ : ∃ y : Nat → Int32, y = (if x_2 = 0 then G else (upd (upd (upd (upd G 9 v1) 10 0) 11 0) 8 (if x_1 = 0 then 2 else 1))) := ⟨_, rfl⟩
      have fG : G_3 = tsG v1 G := by unfold tsG; rw [← fi, ← fb]; exact eG_3
      have J_59 : ∀ (H : Heap) (locs : List Loc) (ls : Array Slot), va_P E.1 vwCl (wM E A G_3 z a t r h) H → va_D (va_A (wM E A G z a t r h) s.heap.size) (wM E A G_3 z a t r h) → va_S (va_A (wM E A G z a t r h) s.heap.size) s.heap H locs → lv_has ls 4 [(3, .int x_2), (2, .int x_1), (0, .ref (A 0)), (1, .int v1)] → W p l e (gR wsX5_takesSign 0 0) s m ([.ref (A 0), .int v1] : List Value).toArray below meth c H locs 0 0 (gMQ below E s (wM E A G z a t r h) (wM E A (tsG v1 G) z a t r h) (some (.int (isI v1))) [.ref (A 0), .int v1]) (F0 m 90 ls []) := by
        intro H locs ls hP hD hS hl
        refine lv_iload_n hx hb dX5_takesSign_90 rfl (lv_at hl 0 rfl) ?_
        exact gretz hx hb hr hlocks hP hD hS (by rw [fi]; exact isI_01 v1) (fi) (by rw [fG]) dX5_takesSign_91
      refine lv_if_eq (tgt := 90) hx hb dX5_takesSign_59 (by decide) (fun c_59 => ?_) (fun c_59 => ?_)
      · exact J_59 H locs ls (by rw [eG_3]; simp only [if_pos c_59]; exact hP) (by rw [eG_3]; simp only [if_pos c_59]; exact hD) hS (lv_sub hl [0, 1, 2, 3] rfl)
      · refine lv_aload_n hx hb dX5_takesSign_62 rfl (lv_at hl 2 rfl) ?_
        refine lv_iload_n hx hb dX5_takesSign_63 rfl (lv_at hl 3 rfl) ?_
        refine va_put (D := E.1) (ci := 5) (v := .int v1) (ty := .int) (C := RX5) (T := TX5) (N := 15) hx hb hts hiX5 tyX5 tyX5_ok nmX5 hown hK hP hD hS 0 rfl rfl 9 (by decide) hf114 (fun _ h9 => h9) rfl (by decide +kernel) rfl rfl (Nat.le_of_ble_eq_true rfl) dX5_takesSign_64 (fun H locs hP hD hS => ?_)
        have hP : va_P E.1 vwCl (wM E A (upd G 9 v1) z a t r h) H := hP
        have hD : va_D _ (wM E A (upd G 9 v1) z a t r h) := hD
        refine lv_aload_n hx hb dX5_takesSign_67 rfl (lv_at hl 2 rfl) ?_
        refine lv_iconst (v := 0) hx hb dX5_takesSign_68 (by decide) ?_
        refine va_put (D := E.1) (ci := 5) (v := .int 0) (ty := .int) (C := RX5) (T := TX5) (N := 15) hx hb hts hiX5 tyX5 tyX5_ok nmX5 hown hK hP hD hS 0 rfl rfl 10 (by decide) hf117 (fun _ h9 => h9) rfl (by decide +kernel) rfl rfl (Nat.le_of_ble_eq_true rfl) dX5_takesSign_69 (fun H locs hP hD hS => ?_)
        have hP : va_P E.1 vwCl (wM E A (upd (upd G 9 v1) 10 0) z a t r h) H := hP
        have hD : va_D _ (wM E A (upd (upd G 9 v1) 10 0) z a t r h) := hD
        refine lv_aload_n hx hb dX5_takesSign_72 rfl (lv_at hl 2 rfl) ?_
        refine lv_iconst (v := 0) hx hb dX5_takesSign_73 (by decide) ?_
        refine va_put (D := E.1) (ci := 5) (v := .int 0) (ty := .int) (C := RX5) (T := TX5) (N := 15) hx hb hts hiX5 tyX5 tyX5_ok nmX5 hown hK hP hD hS 0 rfl rfl 11 (by decide) hf120 (fun _ h9 => h9) rfl (by decide +kernel) rfl rfl (Nat.le_of_ble_eq_true rfl) dX5_takesSign_74 (fun H locs hP hD hS => ?_)
        have hP : va_P E.1 vwCl (wM E A (upd (upd (upd G 9 v1) 10 0) 11 0) z a t r h) H := hP
        have hD : va_D _ (wM E A (upd (upd (upd G 9 v1) 10 0) 11 0) z a t r h) := hD
        refine lv_aload_n hx hb dX5_takesSign_77 rfl (lv_at hl 2 rfl) ?_
        refine lv_iload_n hx hb dX5_takesSign_78 rfl (lv_at hl 1 rfl) ?_
        obtain ⟨x_4, ex_4⟩ : ∃ y : Int32, y = (if x_1 = 0 then 2 else 1) := ⟨_, rfl⟩
        have f8 : x_4 = (if bareI v1 = 0 then 2 else 1) := by rw [← fb]; exact ex_4
        have J_79 : ∀ (H : Heap) (locs : List Loc) (ls : Array Slot), va_P E.1 vwCl (wM E A (upd (upd (upd G 9 v1) 10 0) 11 0) z a t r h) H → va_D (va_A (wM E A G z a t r h) s.heap.size) (wM E A (upd (upd (upd G 9 v1) 10 0) 11 0) z a t r h) → va_S (va_A (wM E A G z a t r h) s.heap.size) s.heap H locs → lv_has ls 4 [(3, .int x_2), (2, .int x_1), (0, .ref (A 0)), (1, .int v1)] → W p l e (gR wsX5_takesSign 0 0) s m ([.ref (A 0), .int v1] : List Value).toArray below meth c H locs 0 0 (gMQ below E s (wM E A G z a t r h) (wM E A (tsG v1 G) z a t r h) (some (.int (isI v1))) [.ref (A 0), .int v1]) (F0 m 87 ls [.int x_4, .ref (A 0)]) := by
          intro H locs ls hP hD hS hl
          refine va_put (D := E.1) (ci := 5) (v := .int x_4) (ty := .int) (C := RX5) (T := TX5) (N := 15) hx hb hts hiX5 tyX5 tyX5_ok nmX5 hown hK hP hD hS 0 rfl rfl 8 (by decide) hf123 (fun _ h9 => h9) rfl (by decide +kernel) rfl rfl (Nat.le_of_ble_eq_true rfl) dX5_takesSign_87 (fun H locs hP hD hS => ?_)
          have hP : va_P E.1 vwCl (wM E A (upd (upd (upd (upd G 9 v1) 10 0) 11 0) 8 x_4) z a t r h) H := hP
          have hD : va_D _ (wM E A (upd (upd (upd (upd G 9 v1) 10 0) 11 0) 8 x_4) z a t r h) := hD
          subst ex_4
          exact J_59 H locs ls (by rw [eG_3]; simp only [if_neg c_59]; exact hP) (by rw [eG_3]; simp only [if_neg c_59]; exact hD) hS (lv_sub hl [0, 1, 2, 3] rfl)
        refine lv_if_eq (tgt := 86) hx hb dX5_takesSign_79 (by decide) (fun c_79 => ?_) (fun c_79 => ?_)
        · refine lv_iconst (v := 2) hx hb dX5_takesSign_86 (by decide) ?_
          refine W.eq (g2 := F0 m 87 ls [.int x_4, .ref (A 0)]) (by rw [ex_4]; simp only [if_pos c_79]) ?_
          exact J_79 H locs ls (hP) (hD) hS (lv_sub hl [0, 1, 2, 3] rfl)
        · refine lv_iconst (v := 1) hx hb dX5_takesSign_82 (by decide) ?_
          refine lv_goto (tgt := 87) hx hb dX5_takesSign_83 (by decide) ?_
          refine W.eq (g2 := F0 m 87 ls [.int x_4, .ref (A 0)]) (by rw [ex_4]; simp only [if_neg c_79]) ?_
          exact J_79 H locs ls (hP) (hD) hS (lv_sub hl [0, 1, 2, 3] rfl)
    refine lv_if_ne (tgt := 52) hx hb dX5_takesSign_19 (by decide) (fun c_19 => ?_) (fun c_19 => ?_)
    · refine lv_iconst (v := 1) hx hb dX5_takesSign_52 (by decide) ?_
      refine lv_goto (tgt := 57) hx hb dX5_takesSign_53 (by decide) ?_
      refine W.eq (g2 := F0 m 57 ls [.int x_2]) (by rw [ex_2]; simp only [if_neg c_19]) ?_
      exact J_19 H locs ls (hP) (hD) hS (lv_sub hl [0, 1, 2] rfl)
    · refine lv_iload_n hx hb dX5_takesSign_22 rfl (lv_at hl 2 rfl) ?_
      refine lv_bipush (v := 105) hx hb dX5_takesSign_23 (by decide) ?_
      refine lv_icmp_eq (tgt := 52) hx hb dX5_takesSign_25 (by decide) (fun c_25 => ?_) (fun c_25 => ?_)
      · refine lv_iconst (v := 1) hx hb dX5_takesSign_52 (by decide) ?_
        refine lv_goto (tgt := 57) hx hb dX5_takesSign_53 (by decide) ?_
        refine W.eq (g2 := F0 m 57 ls [.int x_2]) (by rw [ex_2]; simp only [if_pos c_19, if_pos c_25]) ?_
        exact J_19 H locs ls (hP) (hD) hS (lv_sub hl [0, 1, 2] rfl)
      · refine lv_iload_n hx hb dX5_takesSign_28 rfl (lv_at hl 2 rfl) ?_
        refine lv_bipush (v := 116) hx hb dX5_takesSign_29 (by decide) ?_
        refine lv_icmp_eq (tgt := 52) hx hb dX5_takesSign_31 (by decide) (fun c_31 => ?_) (fun c_31 => ?_)
        · refine lv_iconst (v := 1) hx hb dX5_takesSign_52 (by decide) ?_
          refine lv_goto (tgt := 57) hx hb dX5_takesSign_53 (by decide) ?_
          refine W.eq (g2 := F0 m 57 ls [.int x_2]) (by rw [ex_2]; simp only [if_pos c_19, if_neg c_25, if_pos c_31]) ?_
          exact J_19 H locs ls (hP) (hD) hS (lv_sub hl [0, 1, 2] rfl)
        · refine lv_iload_n hx hb dX5_takesSign_34 rfl (lv_at hl 2 rfl) ?_
          refine lv_bipush (v := 108) hx hb dX5_takesSign_35 (by decide) ?_
          refine lv_icmp_eq (tgt := 52) hx hb dX5_takesSign_37 (by decide) (fun c_37 => ?_) (fun c_37 => ?_)
          · refine lv_iconst (v := 1) hx hb dX5_takesSign_52 (by decide) ?_
            refine lv_goto (tgt := 57) hx hb dX5_takesSign_53 (by decide) ?_
            refine W.eq (g2 := F0 m 57 ls [.int x_2]) (by rw [ex_2]; simp only [if_pos c_19, if_neg c_25, if_neg c_31, if_pos c_37]) ?_
            exact J_19 H locs ls (hP) (hD) hS (lv_sub hl [0, 1, 2] rfl)
          · refine lv_iload_n hx hb dX5_takesSign_40 rfl (lv_at hl 2 rfl) ?_
            refine lv_bipush (v := 99) hx hb dX5_takesSign_41 (by decide) ?_
            refine lv_icmp_eq (tgt := 52) hx hb dX5_takesSign_43 (by decide) (fun c_43 => ?_) (fun c_43 => ?_)
            · refine lv_iconst (v := 1) hx hb dX5_takesSign_52 (by decide) ?_
              refine lv_goto (tgt := 57) hx hb dX5_takesSign_53 (by decide) ?_
              refine W.eq (g2 := F0 m 57 ls [.int x_2]) (by rw [ex_2]; simp only [if_pos c_19, if_neg c_25, if_neg c_31, if_neg c_37, if_pos c_43]) ?_
              exact J_19 H locs ls (hP) (hD) hS (lv_sub hl [0, 1, 2] rfl)
            · refine lv_iload_n hx hb dX5_takesSign_46 rfl (lv_at hl 2 rfl) ?_
              refine lv_bipush (v := 114) hx hb dX5_takesSign_47 (by decide) ?_
              refine lv_icmp_ne (tgt := 56) hx hb dX5_takesSign_49 (by decide) (fun c_49 => ?_) (fun c_49 => ?_)
              · refine lv_iconst (v := 0) hx hb dX5_takesSign_56 (by decide) ?_
                refine W.eq (g2 := F0 m 57 ls [.int x_2]) (by rw [ex_2]; simp only [if_pos c_19, if_neg c_25, if_neg c_31, if_neg c_37, if_neg c_43, if_neg c_49]) ?_
                exact J_19 H locs ls (hP) (hD) hS (lv_sub hl [0, 1, 2] rfl)
              · refine lv_iconst (v := 1) hx hb dX5_takesSign_52 (by decide) ?_
                refine lv_goto (tgt := 57) hx hb dX5_takesSign_53 (by decide) ?_
                refine W.eq (g2 := F0 m 57 ls [.int x_2]) (by rw [ex_2]; simp only [if_pos c_19, if_neg c_25, if_neg c_31, if_neg c_37, if_neg c_43, if_pos c_49]) ?_
                exact J_19 H locs ls (hP) (hD) hS (lv_sub hl [0, 1, 2] rfl)
  refine lv_icmp_eq (tgt := 12) hx hb dX5_takesSign_3 (by decide) (fun c_3 => ?_) (fun c_3 => ?_)
  · refine lv_iconst (v := 1) hx hb dX5_takesSign_12 (by decide) ?_
    refine lv_goto (tgt := 17) hx hb dX5_takesSign_13 (by decide) ?_
    refine W.eq (g2 := F0 m 17 ls [.int x_1]) (by rw [ex_1]; simp only [if_pos c_3]) ?_
    exact J_3 s.heap [] ls (hP) (hD) hS (lv_sub hl [0, 1] rfl)
  · refine lv_iload_n hx hb dX5_takesSign_6 rfl (lv_at hl 1 rfl) ?_
    refine lv_bipush (v := 120) hx hb dX5_takesSign_7 (by decide) ?_
    refine lv_icmp_ne (tgt := 16) hx hb dX5_takesSign_9 (by decide) (fun c_9 => ?_) (fun c_9 => ?_)
    · refine lv_iconst (v := 0) hx hb dX5_takesSign_16 (by decide) ?_
      refine W.eq (g2 := F0 m 17 ls [.int x_1]) (by rw [ex_1]; simp only [if_neg c_3, if_neg c_9]) ?_
      exact J_3 s.heap [] ls (hP) (hD) hS (lv_sub hl [0, 1] rfl)
    · refine lv_iconst (v := 1) hx hb dX5_takesSign_12 (by decide) ?_
      refine lv_goto (tgt := 17) hx hb dX5_takesSign_13 (by decide) ?_
      refine W.eq (g2 := F0 m 17 ls [.int x_1]) (by rw [ex_1]; simp only [if_neg c_3, if_pos c_9]) ?_
      exact J_3 s.heap [] ls (hP) (hD) hS (lv_sub hl [0, 1] rfl)

set_option maxHeartbeats 4000000 in
set_option maxRecDepth 100000 in
theorem c_X5_endItem (l : Launch) (E : EE) (A : Nat → Nat) (G z a t r : Nat → Int32) (h : Int64) (it : Nat) (hit : G 12 = nI it) (hi5 : it < 50) : GM l yX5_endItem wsX5_endItem 0 0 E (wM E A G z a t r h) [.ref (A 0)] (wM E A (upd (upd G 12 (G 12 + 1)) 8 0) z a t (upd (upd r (2 * it) (G 9)) (2 * it + 1) (G 10)) h) (none) := by
  intro sz
  refine Met.ofW (cc := cX5_endItem) (maxL := 1) (ret := none) (by decide) rfl ?_
  intro p e s m args below meth c s₁ B hml hv
  obtain ⟨rfl, rfl, hP, hK, hD0, hN⟩ := hv
  have hx := B.exec
  have hb := B.bytes
  have hr := B.returns
  have hts := atoms_spec (ws := wsX5_endItem) B.pre
  have hown : s.vm.findClass RX5 = some m.cls := findClass_of_methodNamed B.named
  have hlocks := B.notSynchronized
  have hD := hD0.self (sz := s.heap.size)
  have hA : ∀ q : Nat, s.heap.size ≤ q → va_A (wM E A G z a t r h) s.heap.size q := fun q h => Or.inr h
  have hS : va_S (va_A (wM E A G z a t r h) s.heap.size) s.heap s.heap [] := va_S.rf
  have hl := lv_entry ([.ref (A 0)]) (n := 1) (Nat.le_of_ble_eq_true rfl)
  rw [lg_entry_eq]
  generalize (lg_sl ([.ref (A 0)]) ++ List.replicate (1 - (lg_sl ([.ref (A 0)])).length) Slot.unset).toArray = ls at hl ⊢
  have hl : lv_has ls 1 [(0, .ref (A 0))] := hl
  have hf114 := hts (.fieldLink RX5 114 "PhaseConverterModel" "sign" "I") (List.mem_of_getElem? (i := 3) rfl)
  have hf117 := hts (.fieldLink RX5 117 "PhaseConverterModel" "number" "I") (List.mem_of_getElem? (i := 4) rfl)
  have hf123 := hts (.fieldLink RX5 123 "PhaseConverterModel" "step" "I") (List.mem_of_getElem? (i := 5) rfl)
  have hf131 := hts (.fieldLink RX5 131 "PhaseConverterModel" "items" "I") (List.mem_of_getElem? (i := 2) rfl)
  have hf19 := hts (.fieldLink RX5 19 "PhaseConverterModel" "read" "[I") (List.mem_of_getElem? (i := 1) rfl)
  have hiX5 : ∀ w ∈ u_ws RX5 TX5 15, w ∈ wsX5_endItem := memIn [6, 7, 8, 9, 10, 11, 12, 13, 14, 15, 16, 17, 18, 19, 20] rfl
  refine lv_aload_n hx hb dX5_endItem_0 rfl (lv_at hl 0 rfl) ?_
  refine va_get (D := E.1) (ci := 5) (v := .ref (A 4)) (C := RX5) (T := TX5) (N := 15) hx hb hts hiX5 hown hK hP 0 rfl rfl 13 (by decide) hf19 (fun _ h9 => h9) rfl dX5_endItem_1 ?_
  refine lv_iconst (v := 2) hx hb dX5_endItem_4 (by decide) ?_
  refine lv_aload_n hx hb dX5_endItem_5 rfl (lv_at hl 0 rfl) ?_
  refine va_get (D := E.1) (ci := 5) (v := .int (G 12)) (C := RX5) (T := TX5) (N := 15) hx hb hts hiX5 hown hK hP 0 rfl rfl 12 (by decide) hf131 (fun _ h9 => h9) rfl dX5_endItem_6 ?_
  refine lv_imul hx hb dX5_endItem_9 ?_
  refine lv_aload_n hx hb dX5_endItem_10 rfl (lv_at hl 0 rfl) ?_
  refine va_get (D := E.1) (ci := 5) (v := .int (G 9)) (C := RX5) (T := TX5) (N := 15) hx hb hts hiX5 hown hK hP 0 rfl rfl 9 (by decide) hf114 (fun _ h9 => h9) rfl dX5_endItem_11 ?_
  refine gast hx hb hK hP hD hS 4 rfl (2 * it) (ix2 hit) (by omega) (by decide) dX5_endItem_14 (fun H locs hP hD hS => ?_)
  have hP : va_P E.1 vwCl (wM E A G z a t (upd r (2 * it) (G 9)) h) H := hP
  have hD : va_D _ (wM E A G z a t (upd r (2 * it) (G 9)) h) := hD
  refine lv_aload_n hx hb dX5_endItem_15 rfl (lv_at hl 0 rfl) ?_
  refine va_get (D := E.1) (ci := 5) (v := .ref (A 4)) (C := RX5) (T := TX5) (N := 15) hx hb hts hiX5 hown hK hP 0 rfl rfl 13 (by decide) hf19 (fun _ h9 => h9) rfl dX5_endItem_16 ?_
  refine lv_iconst (v := 2) hx hb dX5_endItem_19 (by decide) ?_
  refine lv_aload_n hx hb dX5_endItem_20 rfl (lv_at hl 0 rfl) ?_
  refine va_get (D := E.1) (ci := 5) (v := .int (G 12)) (C := RX5) (T := TX5) (N := 15) hx hb hts hiX5 hown hK hP 0 rfl rfl 12 (by decide) hf131 (fun _ h9 => h9) rfl dX5_endItem_21 ?_
  refine lv_imul hx hb dX5_endItem_24 ?_
  refine lv_iconst (v := 1) hx hb dX5_endItem_25 (by decide) ?_
  refine lv_iadd hx hb dX5_endItem_26 ?_
  refine lv_aload_n hx hb dX5_endItem_27 rfl (lv_at hl 0 rfl) ?_
  refine va_get (D := E.1) (ci := 5) (v := .int (G 10)) (C := RX5) (T := TX5) (N := 15) hx hb hts hiX5 hown hK hP 0 rfl rfl 10 (by decide) hf117 (fun _ h9 => h9) rfl dX5_endItem_28 ?_
  refine gast hx hb hK hP hD hS 4 rfl (2 * it + 1) (ix21 hit) (by omega) (by decide) dX5_endItem_31 (fun H locs hP hD hS => ?_)
  have hP : va_P E.1 vwCl (wM E A G z a t (upd (upd r (2 * it) (G 9)) (2 * it + 1) (G 10)) h) H := hP
  have hD : va_D _ (wM E A G z a t (upd (upd r (2 * it) (G 9)) (2 * it + 1) (G 10)) h) := hD
  refine lv_aload_n hx hb dX5_endItem_32 rfl (lv_at hl 0 rfl) ?_
  refine lv_dup hx hb dX5_endItem_33 rfl ?_
  refine va_get (D := E.1) (ci := 5) (v := .int (G 12)) (C := RX5) (T := TX5) (N := 15) hx hb hts hiX5 hown hK hP 0 rfl rfl 12 (by decide) hf131 (fun _ h9 => h9) rfl dX5_endItem_34 ?_
  refine lv_iconst (v := 1) hx hb dX5_endItem_37 (by decide) ?_
  refine lv_iadd hx hb dX5_endItem_38 ?_
  refine va_put (D := E.1) (ci := 5) (v := .int ((G 12) + 1)) (ty := .int) (C := RX5) (T := TX5) (N := 15) hx hb hts hiX5 tyX5 tyX5_ok nmX5 hown hK hP hD hS 0 rfl rfl 12 (by decide) hf131 (fun _ h9 => h9) rfl (by decide +kernel) rfl rfl (Nat.le_of_ble_eq_true rfl) dX5_endItem_39 (fun H locs hP hD hS => ?_)
  have hP : va_P E.1 vwCl (wM E A (upd G 12 ((G 12) + 1)) z a t (upd (upd r (2 * it) (G 9)) (2 * it + 1) (G 10)) h) H := hP
  have hD : va_D _ (wM E A (upd G 12 ((G 12) + 1)) z a t (upd (upd r (2 * it) (G 9)) (2 * it + 1) (G 10)) h) := hD
  refine lv_aload_n hx hb dX5_endItem_42 rfl (lv_at hl 0 rfl) ?_
  refine lv_iconst (v := 0) hx hb dX5_endItem_43 (by decide) ?_
  refine va_put (D := E.1) (ci := 5) (v := .int 0) (ty := .int) (C := RX5) (T := TX5) (N := 15) hx hb hts hiX5 tyX5 tyX5_ok nmX5 hown hK hP hD hS 0 rfl rfl 8 (by decide) hf123 (fun _ h9 => h9) rfl (by decide +kernel) rfl rfl (Nat.le_of_ble_eq_true rfl) dX5_endItem_44 (fun H locs hP hD hS => ?_)
  have hP : va_P E.1 vwCl (wM E A (upd (upd G 12 ((G 12) + 1)) 8 0) z a t (upd (upd r (2 * it) (G 9)) (2 * it + 1) (G 10)) h) H := hP
  have hD : va_D _ (wM E A (upd (upd G 12 ((G 12) + 1)) 8 0) z a t (upd (upd r (2 * it) (G 9)) (2 * it + 1) (G 10)) h) := hD
  exact gretv hx hb hr hlocks hP hD hS (rfl) dX5_endItem_47

set_option maxHeartbeats 4000000 in
set_option maxRecDepth 100000 in
theorem c_X5_takes (l : Launch) (E : EE) (A : Nat → Nat) (G z a t r : Nat → Int32) (h : Int64) (v1 : Int32) (it : Nat) (hit : G 12 = nI it) (hi5 : it < 50) : GM l yX5_takes wsX5_takes 1 23 E (wM E A G z a t r h) [.ref (A 0), .int v1] (wM E A ((tkF v1 G it r).1) z a t ((tkF v1 G it r).2.1) h) (some (.int (tkF v1 G it r).2.2)) := by
  intro sz
  refine Met.ofW (cc := cX5_takes) (maxL := 3) (ret := (some .boolean)) (by decide) rfl ?_
  intro p e s m args below meth c s₁ B hml hv
  obtain ⟨rfl, rfl, hP, hK, hD0, hN⟩ := hv
  have hx := B.exec
  have hb := B.bytes
  have hr := B.returns
  have hts := atoms_spec (ws := wsX5_takes) B.pre
  have hown : s.vm.findClass RX5 = some m.cls := findClass_of_methodNamed B.named
  have hlocks := B.notSynchronized
  have hD := hD0.self (sz := s.heap.size)
  have hA : ∀ q : Nat, s.heap.size ≤ q → va_A (wM E A G z a t r h) s.heap.size q := fun q h => Or.inr h
  have hS : va_S (va_A (wM E A G z a t r h) s.heap.size) s.heap s.heap [] := va_S.rf
  have hl := lv_entry ([.ref (A 0), .int v1]) (n := 3) (Nat.le_of_ble_eq_true rfl)
  rw [lg_entry_eq]
  generalize (lg_sl ([.ref (A 0), .int v1]) ++ List.replicate (3 - (lg_sl ([.ref (A 0), .int v1])).length) Slot.unset).toArray = ls at hl ⊢
  have hl : lv_has ls 3 [(0, .ref (A 0)), (1, .int v1)] := hl
  have hf117 := hts (.fieldLink RX5 117 "PhaseConverterModel" "number" "I") (List.mem_of_getElem? (i := 2) rfl)
  have hf120 := hts (.fieldLink RX5 120 "PhaseConverterModel" "digits" "I") (List.mem_of_getElem? (i := 3) rfl)
  have hf123 := hts (.fieldLink RX5 123 "PhaseConverterModel" "step" "I") (List.mem_of_getElem? (i := 1) rfl)
  have hiX5 : ∀ w ∈ u_ws RX5 TX5 15, w ∈ wsX5_takes := memIn [19, 20, 21, 22, 23, 24, 25, 26, 27, 28, 29, 30, 31, 32, 33] rfl
  refine lv_iload_n hx hb dX5_takes_0 rfl (lv_at hl 1 rfl) ?_
  refine lv_bipush (v := 48) hx hb dX5_takes_1 (by decide) ?_
  refine lv_bipush (v := 57) hx hb dX5_takes_3 (by decide) ?_
  refine gsPi (As := [.int v1, .int 48, .int 57]) (rest := []) ⟨hx, hb, hml, hown, hts⟩ (c_X5_within l E v1 48 57) (va_cwS 3 hts gX5_takes_X5_within rfl rfl rfl (by decide +kernel) ⟨Nat.le_of_ble_eq_true rfl, Nat.le_of_ble_eq_true rfl⟩) hP hK hD hN hS hA rfl hl.1 rfl (Nat.le_of_ble_eq_true rfl) dX5_takes_5 ⟨Nat.le_refl _, Nat.le_refl _⟩ (fun H locs hP hD hS => ?_)
  refine lv_istore_n (lv' := [(2, .int (inRg v1 48 57)), (0, .ref (A 0)), (1, .int v1)]) hx hb dX5_takes_8 rfl hl (by decide) rfl (fun ls hl => ?_)
  refine lv_aload_n hx hb dX5_takes_9 rfl (lv_at hl 1 rfl) ?_
  refine va_get (D := E.1) (ci := 5) (v := .int (G 8)) (C := RX5) (T := TX5) (N := 15) hx hb hts hiX5 hown hK hP 0 rfl rfl 8 (by decide) hf123 (fun _ h9 => h9) rfl dX5_takes_10 ?_
  refine lv_if_ne (tgt := 22) hx hb dX5_takes_13 (by decide) (fun c_13 => ?_) (fun c_13 => ?_)
  · refine lv_iload_n hx hb dX5_takes_22 rfl (lv_at hl 2 rfl) ?_
    refine lv_bipush (v := 44) hx hb dX5_takes_23 (by decide) ?_
    refine lv_icmp_ne (tgt := 42) hx hb dX5_takes_25 (by decide) (fun c_25 => ?_) (fun c_25 => ?_)
    · refine lv_iload_n hx hb dX5_takes_42 rfl (lv_at hl 0 rfl) ?_
      refine lv_if_eq (tgt := 77) hx hb dX5_takes_43 (by decide) (fun c_43 => ?_) (fun c_43 => ?_)
      · refine lv_iconst (v := 0) hx hb dX5_takes_77 (by decide) ?_
        exact gretz hx hb hr hlocks hP hD hS (by first | exact Or.inl rfl | exact Or.inr rfl) (by simp only [tkF, tkRest, tkAcc, if_neg c_13, if_neg c_25, if_pos c_43]) (by simp only [tkF, tkRest, tkAcc, if_neg c_13, if_neg c_25, if_pos c_43]) dX5_takes_78
      · refine lv_aload_n hx hb dX5_takes_46 rfl (lv_at hl 1 rfl) ?_
        refine va_get (D := E.1) (ci := 5) (v := .int (G 8)) (C := RX5) (T := TX5) (N := 15) hx hb hts hiX5 hown hK hP 0 rfl rfl 8 (by decide) hf123 (fun _ h9 => h9) rfl dX5_takes_47 ?_
        refine lv_iconst (v := 1) hx hb dX5_takes_50 (by decide) ?_
        refine lv_icmp_eq (tgt := 77) hx hb dX5_takes_51 (by decide) (fun c_51 => ?_) (fun c_51 => ?_)
        · refine lv_iconst (v := 0) hx hb dX5_takes_77 (by decide) ?_
          exact gretz hx hb hr hlocks hP hD hS (by first | exact Or.inl rfl | exact Or.inr rfl) (by simp only [tkF, tkRest, tkAcc, if_neg c_13, if_neg c_25, if_neg c_43, if_pos c_51]) (by simp only [tkF, tkRest, tkAcc, if_neg c_13, if_neg c_25, if_neg c_43, if_pos c_51]) dX5_takes_78
        · refine lv_aload_n hx hb dX5_takes_54 rfl (lv_at hl 1 rfl) ?_
          refine va_get (D := E.1) (ci := 5) (v := .int (G 8)) (C := RX5) (T := TX5) (N := 15) hx hb hts hiX5 hown hK hP 0 rfl rfl 8 (by decide) hf123 (fun _ h9 => h9) rfl dX5_takes_55 ?_
          refine lv_iconst (v := 3) hx hb dX5_takes_58 (by decide) ?_
          refine lv_icmp_ne (tgt := 79) hx hb dX5_takes_59 (by decide) (fun c_59 => ?_) (fun c_59 => ?_)
          · refine lv_aload_n hx hb dX5_takes_79 rfl (lv_at hl 1 rfl) ?_
            refine lv_bipush (v := 10) hx hb dX5_takes_80 (by decide) ?_
            refine lv_aload_n hx hb dX5_takes_82 rfl (lv_at hl 1 rfl) ?_
            refine va_get (D := E.1) (ci := 5) (v := .int (G 10)) (C := RX5) (T := TX5) (N := 15) hx hb hts hiX5 hown hK hP 0 rfl rfl 10 (by decide) hf117 (fun _ h9 => h9) rfl dX5_takes_83 ?_
            refine lv_imul hx hb dX5_takes_86 ?_
            refine lv_iload_n hx hb dX5_takes_87 rfl (lv_at hl 2 rfl) ?_
            refine lv_iadd hx hb dX5_takes_88 ?_
            refine lv_bipush (v := 48) hx hb dX5_takes_89 (by decide) ?_
            refine lv_isub hx hb dX5_takes_91 ?_
            refine va_put (D := E.1) (ci := 5) (v := .int (((10 * (G 10)) + v1) - 48)) (ty := .int) (C := RX5) (T := TX5) (N := 15) hx hb hts hiX5 tyX5 tyX5_ok nmX5 hown hK hP hD hS 0 rfl rfl 10 (by decide) hf117 (fun _ h9 => h9) rfl (by decide +kernel) rfl rfl (Nat.le_of_ble_eq_true rfl) dX5_takes_92 (fun H locs hP hD hS => ?_)
            have hP : va_P E.1 vwCl (wM E A (upd G 10 (((10 * (G 10)) + v1) - 48)) z a t r h) H := hP
            have hD : va_D _ (wM E A (upd G 10 (((10 * (G 10)) + v1) - 48)) z a t r h) := hD
            refine lv_aload_n hx hb dX5_takes_95 rfl (lv_at hl 1 rfl) ?_
            refine lv_dup hx hb dX5_takes_96 rfl ?_
            refine va_get (D := E.1) (ci := 5) (v := .int (G 11)) (C := RX5) (T := TX5) (N := 15) hx hb hts hiX5 hown hK hP 0 rfl rfl 11 (by decide) hf120 (fun _ h9 => h9) rfl dX5_takes_97 ?_
            refine lv_iconst (v := 1) hx hb dX5_takes_100 (by decide) ?_
            refine lv_iadd hx hb dX5_takes_101 ?_
            refine va_put (D := E.1) (ci := 5) (v := .int ((G 11) + 1)) (ty := .int) (C := RX5) (T := TX5) (N := 15) hx hb hts hiX5 tyX5 tyX5_ok nmX5 hown hK hP hD hS 0 rfl rfl 11 (by decide) hf120 (fun _ h9 => h9) rfl (by decide +kernel) rfl rfl (Nat.le_of_ble_eq_true rfl) dX5_takes_102 (fun H locs hP hD hS => ?_)
            have hP : va_P E.1 vwCl (wM E A (upd (upd G 10 (((10 * (G 10)) + v1) - 48)) 11 ((G 11) + 1)) z a t r h) H := hP
            have hD : va_D _ (wM E A (upd (upd G 10 (((10 * (G 10)) + v1) - 48)) 11 ((G 11) + 1)) z a t r h) := hD
            refine lv_aload_n hx hb dX5_takes_105 rfl (lv_at hl 1 rfl) ?_
            refine lv_iconst (v := 3) hx hb dX5_takes_106 (by decide) ?_
            refine va_put (D := E.1) (ci := 5) (v := .int 3) (ty := .int) (C := RX5) (T := TX5) (N := 15) hx hb hts hiX5 tyX5 tyX5_ok nmX5 hown hK hP hD hS 0 rfl rfl 8 (by decide) hf123 (fun _ h9 => h9) rfl (by decide +kernel) rfl rfl (Nat.le_of_ble_eq_true rfl) dX5_takes_107 (fun H locs hP hD hS => ?_)
            have hP : va_P E.1 vwCl (wM E A (upd (upd (upd G 10 (((10 * (G 10)) + v1) - 48)) 11 ((G 11) + 1)) 8 3) z a t r h) H := hP
            have hD : va_D _ (wM E A (upd (upd (upd G 10 (((10 * (G 10)) + v1) - 48)) 11 ((G 11) + 1)) 8 3) z a t r h) := hD
            refine lv_iconst (v := 1) hx hb dX5_takes_110 (by decide) ?_
            exact gretz hx hb hr hlocks hP hD hS (by first | exact Or.inl rfl | exact Or.inr rfl) (by simp only [tkF, tkRest, tkAcc, if_neg c_13, if_neg c_25, if_neg c_43, if_neg c_51, if_neg c_59]) (by simp only [tkF, tkRest, tkAcc, if_neg c_13, if_neg c_25, if_neg c_43, if_neg c_51, if_neg c_59]) dX5_takes_111
          · refine lv_aload_n hx hb dX5_takes_62 rfl (lv_at hl 1 rfl) ?_
            refine va_get (D := E.1) (ci := 5) (v := .int (G 10)) (C := RX5) (T := TX5) (N := 15) hx hb hts hiX5 hown hK hP 0 rfl rfl 10 (by decide) hf117 (fun _ h9 => h9) rfl dX5_takes_63 ?_
            refine lv_if_eq (tgt := 77) hx hb dX5_takes_66 (by decide) (fun c_66 => ?_) (fun c_66 => ?_)
            · refine lv_iconst (v := 0) hx hb dX5_takes_77 (by decide) ?_
              exact gretz hx hb hr hlocks hP hD hS (by first | exact Or.inl rfl | exact Or.inr rfl) (by simp only [tkF, tkRest, tkAcc, if_neg c_13, if_neg c_25, if_neg c_43, if_neg c_51, if_pos c_59, if_pos c_66]) (by simp only [tkF, tkRest, tkAcc, if_neg c_13, if_neg c_25, if_neg c_43, if_neg c_51, if_pos c_59, if_pos c_66]) dX5_takes_78
            · refine lv_aload_n hx hb dX5_takes_69 rfl (lv_at hl 1 rfl) ?_
              refine va_get (D := E.1) (ci := 5) (v := .int (G 11)) (C := RX5) (T := TX5) (N := 15) hx hb hts hiX5 hown hK hP 0 rfl rfl 11 (by decide) hf120 (fun _ h9 => h9) rfl dX5_takes_70 ?_
              refine lv_iconst (v := 5) hx hb dX5_takes_73 (by decide) ?_
              refine lv_icmp_ne (tgt := 79) hx hb dX5_takes_74 (by decide) (fun c_74 => ?_) (fun c_74 => ?_)
              · refine lv_aload_n hx hb dX5_takes_79 rfl (lv_at hl 1 rfl) ?_
                refine lv_bipush (v := 10) hx hb dX5_takes_80 (by decide) ?_
                refine lv_aload_n hx hb dX5_takes_82 rfl (lv_at hl 1 rfl) ?_
                refine va_get (D := E.1) (ci := 5) (v := .int (G 10)) (C := RX5) (T := TX5) (N := 15) hx hb hts hiX5 hown hK hP 0 rfl rfl 10 (by decide) hf117 (fun _ h9 => h9) rfl dX5_takes_83 ?_
                refine lv_imul hx hb dX5_takes_86 ?_
                refine lv_iload_n hx hb dX5_takes_87 rfl (lv_at hl 2 rfl) ?_
                refine lv_iadd hx hb dX5_takes_88 ?_
                refine lv_bipush (v := 48) hx hb dX5_takes_89 (by decide) ?_
                refine lv_isub hx hb dX5_takes_91 ?_
                refine va_put (D := E.1) (ci := 5) (v := .int (((10 * (G 10)) + v1) - 48)) (ty := .int) (C := RX5) (T := TX5) (N := 15) hx hb hts hiX5 tyX5 tyX5_ok nmX5 hown hK hP hD hS 0 rfl rfl 10 (by decide) hf117 (fun _ h9 => h9) rfl (by decide +kernel) rfl rfl (Nat.le_of_ble_eq_true rfl) dX5_takes_92 (fun H locs hP hD hS => ?_)
                have hP : va_P E.1 vwCl (wM E A (upd G 10 (((10 * (G 10)) + v1) - 48)) z a t r h) H := hP
                have hD : va_D _ (wM E A (upd G 10 (((10 * (G 10)) + v1) - 48)) z a t r h) := hD
                refine lv_aload_n hx hb dX5_takes_95 rfl (lv_at hl 1 rfl) ?_
                refine lv_dup hx hb dX5_takes_96 rfl ?_
                refine va_get (D := E.1) (ci := 5) (v := .int (G 11)) (C := RX5) (T := TX5) (N := 15) hx hb hts hiX5 hown hK hP 0 rfl rfl 11 (by decide) hf120 (fun _ h9 => h9) rfl dX5_takes_97 ?_
                refine lv_iconst (v := 1) hx hb dX5_takes_100 (by decide) ?_
                refine lv_iadd hx hb dX5_takes_101 ?_
                refine va_put (D := E.1) (ci := 5) (v := .int ((G 11) + 1)) (ty := .int) (C := RX5) (T := TX5) (N := 15) hx hb hts hiX5 tyX5 tyX5_ok nmX5 hown hK hP hD hS 0 rfl rfl 11 (by decide) hf120 (fun _ h9 => h9) rfl (by decide +kernel) rfl rfl (Nat.le_of_ble_eq_true rfl) dX5_takes_102 (fun H locs hP hD hS => ?_)
                have hP : va_P E.1 vwCl (wM E A (upd (upd G 10 (((10 * (G 10)) + v1) - 48)) 11 ((G 11) + 1)) z a t r h) H := hP
                have hD : va_D _ (wM E A (upd (upd G 10 (((10 * (G 10)) + v1) - 48)) 11 ((G 11) + 1)) z a t r h) := hD
                refine lv_aload_n hx hb dX5_takes_105 rfl (lv_at hl 1 rfl) ?_
                refine lv_iconst (v := 3) hx hb dX5_takes_106 (by decide) ?_
                refine va_put (D := E.1) (ci := 5) (v := .int 3) (ty := .int) (C := RX5) (T := TX5) (N := 15) hx hb hts hiX5 tyX5 tyX5_ok nmX5 hown hK hP hD hS 0 rfl rfl 8 (by decide) hf123 (fun _ h9 => h9) rfl (by decide +kernel) rfl rfl (Nat.le_of_ble_eq_true rfl) dX5_takes_107 (fun H locs hP hD hS => ?_)
                have hP : va_P E.1 vwCl (wM E A (upd (upd (upd G 10 (((10 * (G 10)) + v1) - 48)) 11 ((G 11) + 1)) 8 3) z a t r h) H := hP
                have hD : va_D _ (wM E A (upd (upd (upd G 10 (((10 * (G 10)) + v1) - 48)) 11 ((G 11) + 1)) 8 3) z a t r h) := hD
                refine lv_iconst (v := 1) hx hb dX5_takes_110 (by decide) ?_
                exact gretz hx hb hr hlocks hP hD hS (by first | exact Or.inl rfl | exact Or.inr rfl) (by simp only [tkF, tkRest, tkAcc, if_neg c_13, if_neg c_25, if_neg c_43, if_neg c_51, if_pos c_59, if_neg c_66, if_neg c_74]) (by simp only [tkF, tkRest, tkAcc, if_neg c_13, if_neg c_25, if_neg c_43, if_neg c_51, if_pos c_59, if_neg c_66, if_neg c_74]) dX5_takes_111
              · refine lv_iconst (v := 0) hx hb dX5_takes_77 (by decide) ?_
                exact gretz hx hb hr hlocks hP hD hS (by first | exact Or.inl rfl | exact Or.inr rfl) (by simp only [tkF, tkRest, tkAcc, if_neg c_13, if_neg c_25, if_neg c_43, if_neg c_51, if_pos c_59, if_neg c_66, if_pos c_74]) (by simp only [tkF, tkRest, tkAcc, if_neg c_13, if_neg c_25, if_neg c_43, if_neg c_51, if_pos c_59, if_neg c_66, if_pos c_74]) dX5_takes_78
    · refine lv_aload_n hx hb dX5_takes_28 rfl (lv_at hl 1 rfl) ?_
      refine va_get (D := E.1) (ci := 5) (v := .int (G 8)) (C := RX5) (T := TX5) (N := 15) hx hb hts hiX5 hown hK hP 0 rfl rfl 8 (by decide) hf123 (fun _ h9 => h9) rfl dX5_takes_29 ?_
      refine lv_iconst (v := 2) hx hb dX5_takes_32 (by decide) ?_
      refine lv_icmp_eq (tgt := 42) hx hb dX5_takes_33 (by decide) (fun c_33 => ?_) (fun c_33 => ?_)
      · refine lv_iload_n hx hb dX5_takes_42 rfl (lv_at hl 0 rfl) ?_
        refine lv_if_eq (tgt := 77) hx hb dX5_takes_43 (by decide) (fun c_43 => ?_) (fun c_43 => ?_)
        · refine lv_iconst (v := 0) hx hb dX5_takes_77 (by decide) ?_
          exact gretz hx hb hr hlocks hP hD hS (by first | exact Or.inl rfl | exact Or.inr rfl) (by simp only [tkF, tkRest, tkAcc, if_neg c_13, if_pos c_25, if_pos c_33, if_pos c_43]) (by simp only [tkF, tkRest, tkAcc, if_neg c_13, if_pos c_25, if_pos c_33, if_pos c_43]) dX5_takes_78
        · refine lv_aload_n hx hb dX5_takes_46 rfl (lv_at hl 1 rfl) ?_
          refine va_get (D := E.1) (ci := 5) (v := .int (G 8)) (C := RX5) (T := TX5) (N := 15) hx hb hts hiX5 hown hK hP 0 rfl rfl 8 (by decide) hf123 (fun _ h9 => h9) rfl dX5_takes_47 ?_
          refine lv_iconst (v := 1) hx hb dX5_takes_50 (by decide) ?_
          refine lv_icmp_eq (tgt := 77) hx hb dX5_takes_51 (by decide) (fun c_51 => ?_) (fun c_51 => ?_)
          · refine lv_iconst (v := 0) hx hb dX5_takes_77 (by decide) ?_
            exact gretz hx hb hr hlocks hP hD hS (by first | exact Or.inl rfl | exact Or.inr rfl) (by simp only [tkF, tkRest, tkAcc, if_neg c_13, if_pos c_25, if_pos c_33, if_neg c_43, if_pos c_51]) (by simp only [tkF, tkRest, tkAcc, if_neg c_13, if_pos c_25, if_pos c_33, if_neg c_43, if_pos c_51]) dX5_takes_78
          · refine lv_aload_n hx hb dX5_takes_54 rfl (lv_at hl 1 rfl) ?_
            refine va_get (D := E.1) (ci := 5) (v := .int (G 8)) (C := RX5) (T := TX5) (N := 15) hx hb hts hiX5 hown hK hP 0 rfl rfl 8 (by decide) hf123 (fun _ h9 => h9) rfl dX5_takes_55 ?_
            refine lv_iconst (v := 3) hx hb dX5_takes_58 (by decide) ?_
            refine lv_icmp_ne (tgt := 79) hx hb dX5_takes_59 (by decide) (fun c_59 => ?_) (fun c_59 => ?_)
            · refine lv_aload_n hx hb dX5_takes_79 rfl (lv_at hl 1 rfl) ?_
              refine lv_bipush (v := 10) hx hb dX5_takes_80 (by decide) ?_
              refine lv_aload_n hx hb dX5_takes_82 rfl (lv_at hl 1 rfl) ?_
              refine va_get (D := E.1) (ci := 5) (v := .int (G 10)) (C := RX5) (T := TX5) (N := 15) hx hb hts hiX5 hown hK hP 0 rfl rfl 10 (by decide) hf117 (fun _ h9 => h9) rfl dX5_takes_83 ?_
              refine lv_imul hx hb dX5_takes_86 ?_
              refine lv_iload_n hx hb dX5_takes_87 rfl (lv_at hl 2 rfl) ?_
              refine lv_iadd hx hb dX5_takes_88 ?_
              refine lv_bipush (v := 48) hx hb dX5_takes_89 (by decide) ?_
              refine lv_isub hx hb dX5_takes_91 ?_
              refine va_put (D := E.1) (ci := 5) (v := .int (((10 * (G 10)) + v1) - 48)) (ty := .int) (C := RX5) (T := TX5) (N := 15) hx hb hts hiX5 tyX5 tyX5_ok nmX5 hown hK hP hD hS 0 rfl rfl 10 (by decide) hf117 (fun _ h9 => h9) rfl (by decide +kernel) rfl rfl (Nat.le_of_ble_eq_true rfl) dX5_takes_92 (fun H locs hP hD hS => ?_)
              have hP : va_P E.1 vwCl (wM E A (upd G 10 (((10 * (G 10)) + v1) - 48)) z a t r h) H := hP
              have hD : va_D _ (wM E A (upd G 10 (((10 * (G 10)) + v1) - 48)) z a t r h) := hD
              refine lv_aload_n hx hb dX5_takes_95 rfl (lv_at hl 1 rfl) ?_
              refine lv_dup hx hb dX5_takes_96 rfl ?_
              refine va_get (D := E.1) (ci := 5) (v := .int (G 11)) (C := RX5) (T := TX5) (N := 15) hx hb hts hiX5 hown hK hP 0 rfl rfl 11 (by decide) hf120 (fun _ h9 => h9) rfl dX5_takes_97 ?_
              refine lv_iconst (v := 1) hx hb dX5_takes_100 (by decide) ?_
              refine lv_iadd hx hb dX5_takes_101 ?_
              refine va_put (D := E.1) (ci := 5) (v := .int ((G 11) + 1)) (ty := .int) (C := RX5) (T := TX5) (N := 15) hx hb hts hiX5 tyX5 tyX5_ok nmX5 hown hK hP hD hS 0 rfl rfl 11 (by decide) hf120 (fun _ h9 => h9) rfl (by decide +kernel) rfl rfl (Nat.le_of_ble_eq_true rfl) dX5_takes_102 (fun H locs hP hD hS => ?_)
              have hP : va_P E.1 vwCl (wM E A (upd (upd G 10 (((10 * (G 10)) + v1) - 48)) 11 ((G 11) + 1)) z a t r h) H := hP
              have hD : va_D _ (wM E A (upd (upd G 10 (((10 * (G 10)) + v1) - 48)) 11 ((G 11) + 1)) z a t r h) := hD
              refine lv_aload_n hx hb dX5_takes_105 rfl (lv_at hl 1 rfl) ?_
              refine lv_iconst (v := 3) hx hb dX5_takes_106 (by decide) ?_
              refine va_put (D := E.1) (ci := 5) (v := .int 3) (ty := .int) (C := RX5) (T := TX5) (N := 15) hx hb hts hiX5 tyX5 tyX5_ok nmX5 hown hK hP hD hS 0 rfl rfl 8 (by decide) hf123 (fun _ h9 => h9) rfl (by decide +kernel) rfl rfl (Nat.le_of_ble_eq_true rfl) dX5_takes_107 (fun H locs hP hD hS => ?_)
              have hP : va_P E.1 vwCl (wM E A (upd (upd (upd G 10 (((10 * (G 10)) + v1) - 48)) 11 ((G 11) + 1)) 8 3) z a t r h) H := hP
              have hD : va_D _ (wM E A (upd (upd (upd G 10 (((10 * (G 10)) + v1) - 48)) 11 ((G 11) + 1)) 8 3) z a t r h) := hD
              refine lv_iconst (v := 1) hx hb dX5_takes_110 (by decide) ?_
              exact gretz hx hb hr hlocks hP hD hS (by first | exact Or.inl rfl | exact Or.inr rfl) (by simp only [tkF, tkRest, tkAcc, if_neg c_13, if_pos c_25, if_pos c_33, if_neg c_43, if_neg c_51, if_neg c_59]) (by simp only [tkF, tkRest, tkAcc, if_neg c_13, if_pos c_25, if_pos c_33, if_neg c_43, if_neg c_51, if_neg c_59]) dX5_takes_111
            · refine lv_aload_n hx hb dX5_takes_62 rfl (lv_at hl 1 rfl) ?_
              refine va_get (D := E.1) (ci := 5) (v := .int (G 10)) (C := RX5) (T := TX5) (N := 15) hx hb hts hiX5 hown hK hP 0 rfl rfl 10 (by decide) hf117 (fun _ h9 => h9) rfl dX5_takes_63 ?_
              refine lv_if_eq (tgt := 77) hx hb dX5_takes_66 (by decide) (fun c_66 => ?_) (fun c_66 => ?_)
              · refine lv_iconst (v := 0) hx hb dX5_takes_77 (by decide) ?_
                exact gretz hx hb hr hlocks hP hD hS (by first | exact Or.inl rfl | exact Or.inr rfl) (by simp only [tkF, tkRest, tkAcc, if_neg c_13, if_pos c_25, if_pos c_33, if_neg c_43, if_neg c_51, if_pos c_59, if_pos c_66]) (by simp only [tkF, tkRest, tkAcc, if_neg c_13, if_pos c_25, if_pos c_33, if_neg c_43, if_neg c_51, if_pos c_59, if_pos c_66]) dX5_takes_78
              · refine lv_aload_n hx hb dX5_takes_69 rfl (lv_at hl 1 rfl) ?_
                refine va_get (D := E.1) (ci := 5) (v := .int (G 11)) (C := RX5) (T := TX5) (N := 15) hx hb hts hiX5 hown hK hP 0 rfl rfl 11 (by decide) hf120 (fun _ h9 => h9) rfl dX5_takes_70 ?_
                refine lv_iconst (v := 5) hx hb dX5_takes_73 (by decide) ?_
                refine lv_icmp_ne (tgt := 79) hx hb dX5_takes_74 (by decide) (fun c_74 => ?_) (fun c_74 => ?_)
                · refine lv_aload_n hx hb dX5_takes_79 rfl (lv_at hl 1 rfl) ?_
                  refine lv_bipush (v := 10) hx hb dX5_takes_80 (by decide) ?_
                  refine lv_aload_n hx hb dX5_takes_82 rfl (lv_at hl 1 rfl) ?_
                  refine va_get (D := E.1) (ci := 5) (v := .int (G 10)) (C := RX5) (T := TX5) (N := 15) hx hb hts hiX5 hown hK hP 0 rfl rfl 10 (by decide) hf117 (fun _ h9 => h9) rfl dX5_takes_83 ?_
                  refine lv_imul hx hb dX5_takes_86 ?_
                  refine lv_iload_n hx hb dX5_takes_87 rfl (lv_at hl 2 rfl) ?_
                  refine lv_iadd hx hb dX5_takes_88 ?_
                  refine lv_bipush (v := 48) hx hb dX5_takes_89 (by decide) ?_
                  refine lv_isub hx hb dX5_takes_91 ?_
                  refine va_put (D := E.1) (ci := 5) (v := .int (((10 * (G 10)) + v1) - 48)) (ty := .int) (C := RX5) (T := TX5) (N := 15) hx hb hts hiX5 tyX5 tyX5_ok nmX5 hown hK hP hD hS 0 rfl rfl 10 (by decide) hf117 (fun _ h9 => h9) rfl (by decide +kernel) rfl rfl (Nat.le_of_ble_eq_true rfl) dX5_takes_92 (fun H locs hP hD hS => ?_)
                  have hP : va_P E.1 vwCl (wM E A (upd G 10 (((10 * (G 10)) + v1) - 48)) z a t r h) H := hP
                  have hD : va_D _ (wM E A (upd G 10 (((10 * (G 10)) + v1) - 48)) z a t r h) := hD
                  refine lv_aload_n hx hb dX5_takes_95 rfl (lv_at hl 1 rfl) ?_
                  refine lv_dup hx hb dX5_takes_96 rfl ?_
                  refine va_get (D := E.1) (ci := 5) (v := .int (G 11)) (C := RX5) (T := TX5) (N := 15) hx hb hts hiX5 hown hK hP 0 rfl rfl 11 (by decide) hf120 (fun _ h9 => h9) rfl dX5_takes_97 ?_
                  refine lv_iconst (v := 1) hx hb dX5_takes_100 (by decide) ?_
                  refine lv_iadd hx hb dX5_takes_101 ?_
                  refine va_put (D := E.1) (ci := 5) (v := .int ((G 11) + 1)) (ty := .int) (C := RX5) (T := TX5) (N := 15) hx hb hts hiX5 tyX5 tyX5_ok nmX5 hown hK hP hD hS 0 rfl rfl 11 (by decide) hf120 (fun _ h9 => h9) rfl (by decide +kernel) rfl rfl (Nat.le_of_ble_eq_true rfl) dX5_takes_102 (fun H locs hP hD hS => ?_)
                  have hP : va_P E.1 vwCl (wM E A (upd (upd G 10 (((10 * (G 10)) + v1) - 48)) 11 ((G 11) + 1)) z a t r h) H := hP
                  have hD : va_D _ (wM E A (upd (upd G 10 (((10 * (G 10)) + v1) - 48)) 11 ((G 11) + 1)) z a t r h) := hD
                  refine lv_aload_n hx hb dX5_takes_105 rfl (lv_at hl 1 rfl) ?_
                  refine lv_iconst (v := 3) hx hb dX5_takes_106 (by decide) ?_
                  refine va_put (D := E.1) (ci := 5) (v := .int 3) (ty := .int) (C := RX5) (T := TX5) (N := 15) hx hb hts hiX5 tyX5 tyX5_ok nmX5 hown hK hP hD hS 0 rfl rfl 8 (by decide) hf123 (fun _ h9 => h9) rfl (by decide +kernel) rfl rfl (Nat.le_of_ble_eq_true rfl) dX5_takes_107 (fun H locs hP hD hS => ?_)
                  have hP : va_P E.1 vwCl (wM E A (upd (upd (upd G 10 (((10 * (G 10)) + v1) - 48)) 11 ((G 11) + 1)) 8 3) z a t r h) H := hP
                  have hD : va_D _ (wM E A (upd (upd (upd G 10 (((10 * (G 10)) + v1) - 48)) 11 ((G 11) + 1)) 8 3) z a t r h) := hD
                  refine lv_iconst (v := 1) hx hb dX5_takes_110 (by decide) ?_
                  exact gretz hx hb hr hlocks hP hD hS (by first | exact Or.inl rfl | exact Or.inr rfl) (by simp only [tkF, tkRest, tkAcc, if_neg c_13, if_pos c_25, if_pos c_33, if_neg c_43, if_neg c_51, if_pos c_59, if_neg c_66, if_neg c_74]) (by simp only [tkF, tkRest, tkAcc, if_neg c_13, if_pos c_25, if_pos c_33, if_neg c_43, if_neg c_51, if_pos c_59, if_neg c_66, if_neg c_74]) dX5_takes_111
                · refine lv_iconst (v := 0) hx hb dX5_takes_77 (by decide) ?_
                  exact gretz hx hb hr hlocks hP hD hS (by first | exact Or.inl rfl | exact Or.inr rfl) (by simp only [tkF, tkRest, tkAcc, if_neg c_13, if_pos c_25, if_pos c_33, if_neg c_43, if_neg c_51, if_pos c_59, if_neg c_66, if_pos c_74]) (by simp only [tkF, tkRest, tkAcc, if_neg c_13, if_pos c_25, if_pos c_33, if_neg c_43, if_neg c_51, if_pos c_59, if_neg c_66, if_pos c_74]) dX5_takes_78
      · refine lv_aload_n hx hb dX5_takes_36 rfl (lv_at hl 1 rfl) ?_
        refine gv0v (As := []) (rest := []) ⟨hx, hb, hml, hown, hts⟩ (c_X5_endItem l E A G z a t r h it hit hi5) (cwV 0 hts gX5_takes_X5_endItem rfl rfl rfl (by decide +kernel) ⟨Nat.le_of_ble_eq_true rfl, Nat.le_of_ble_eq_true rfl⟩) (va_recv hK hP (ci := 5) (q0 := 0) rfl rfl) hP hK hD hN hS hA rfl hl.1 rfl (Nat.le_of_ble_eq_true rfl) dX5_takes_37 ⟨Nat.le_refl _, Nat.le_refl _⟩ (fun H locs hP hD hS => ?_)
        have hP : va_P E.1 vwCl (wM E A (endG G) z a t (endR it G r) h) H := hP
        have hD : va_D _ (wM E A (endG G) z a t (endR it G r) h) := hD
        refine lv_iconst (v := 1) hx hb dX5_takes_40 (by decide) ?_
        exact gretz hx hb hr hlocks hP hD hS (by first | exact Or.inl rfl | exact Or.inr rfl) (by simp only [tkF, tkRest, tkAcc, if_neg c_13, if_pos c_25, if_neg c_33]) (by simp only [tkF, tkRest, tkAcc, if_neg c_13, if_pos c_25, if_neg c_33]) dX5_takes_41
  · refine lv_aload_n hx hb dX5_takes_16 rfl (lv_at hl 1 rfl) ?_
    refine lv_iload_n hx hb dX5_takes_17 rfl (lv_at hl 2 rfl) ?_
    refine gv0i (As := [.int v1]) (rest := []) ⟨hx, hb, hml, hown, hts⟩ (c_X5_takesSign l E A G z a t r h v1) (cwV 1 hts gX5_takes_X5_takesSign rfl rfl rfl (by decide +kernel) ⟨Nat.le_of_ble_eq_true rfl, Nat.le_of_ble_eq_true rfl⟩) (va_recv hK hP (ci := 5) (q0 := 0) rfl rfl) hP hK hD hN hS hA rfl hl.1 rfl (Nat.le_of_ble_eq_true rfl) dX5_takes_18 ⟨Nat.le_refl _, Nat.le_refl _⟩ (fun H locs hP hD hS => ?_)
    have hP : va_P E.1 vwCl (wM E A (tsG v1 G) z a t r h) H := hP
    have hD : va_D _ (wM E A (tsG v1 G) z a t r h) := hD
    exact gretz hx hb hr hlocks hP hD hS (isI_01 v1) (by simp only [tkF, tkRest, tkAcc, if_pos c_13]) (by simp only [tkF, tkRest, tkAcc, if_pos c_13]) dX5_takes_21
