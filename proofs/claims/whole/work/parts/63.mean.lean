/-! The mean voltage, of both. -/
def smL (f : Nat → Int32) : Nat → Nat → Int32 → Int32
  | 0, _, x => x
  | n + 1, i, x => smL f n (i + 1) (x + f i)
theorem smL_congr {f y : Nat → Int32} : ∀ (n i : Nat) (x : Int32), (∀ k, i ≤ k → k < i + n → f k = y k) → smL f n i x = smL y n i x := by
  intro n
  induction n with
  | zero => intro i x _; rfl
  | succ n ih =>
    intro i x h
    show smL f n (i + 1) (x + f i) = smL y n (i + 1) (x + y i)
    rw [h i (by omega) (by omega)]
    exact ih _ _ (fun k h1 h2 => h k (by omega) (by omega))
def mvD (S : Nat) (x : Int32) : UInt64 := if S = 0 then FP.dconst0 else FP.ddiv (FP.i2d x) (FP.i2d (nI S))
theorem gretd {p : Program} {l : Launch} {e : Env} {R : Room} {s : State} {m : MethodId} {args : Array Value} {below : List Frame} {meth : Method} {c : Code} {H : Heap} {locs : List Loc} {pc : Nat} {ls : Array Slot} {E : EE} {w w1 w2 : va_W} {cc : ByteArray}
    (hexec : p.tables.exec = Jvm.exec) (hb : c.code = cc) (hr : meth.sig.returnType = some .double) (hlocks : meth.locks = false) (hP : va_P E.1 vwCl w2 H) (hD : va_D (va_A w s.heap.size) w2) (hS : va_S (va_A w s.heap.size) s.heap H locs) {v v1 : UInt64} (hv : v = v1) (hw : w2 = w1) (hdg : decode cc pc = .ok (.dreturn, 1)) : W p l e R s m args below meth c H locs 0 0 (MQ below (gQ E s.heap.size w w1 (some (.double v1))) args s 0 0 (va_A w s.heap.size)) (F0 m pc ls [.double v]) := by
  subst hw; subst hv
  exact W.dret hexec hb hr (fun t ht hW => ⟨rfl, by rw [ht]; exact hP, hD, hS.F ht⟩) hS.2.2 hdg hlocks
set_option maxHeartbeats 4000000 in
set_option maxRecDepth 100000 in
theorem c_X5_meanVoltage (l : Launch) (E : EE) (A : Nat → Nat) (G z a t r : Nat → Int32) (h : Int64) (K : Nat) (hK1 : z 31 = nI K) (hK2 : K ≤ 16) : GM l yX5_meanVoltage wsX5_meanVoltage 0 0 E (wM E A G z a t r h) [.ref (A 0)] (wM E A (upd G 0 0) z a t r h) (some (.double (mvD K (smL (fun i => z (63 + 6 * i)) K 0 0)))) := by
  intro sz
  refine Met.ofW (cc := cX5_meanVoltage) (maxL := 3) (ret := (some .double)) (by decide) rfl ?_
  intro p e s m args below meth c s₁ B hml hv
  obtain ⟨rfl, rfl, hP, hK, hD0, hN⟩ := hv
  have hx := B.exec
  have hb := B.bytes
  have hr := B.returns
  have hts := atoms_spec (ws := wsX5_meanVoltage) B.pre
  have hown : s.vm.findClass RX5 = some m.cls := findClass_of_methodNamed B.named
  have hlocks := B.notSynchronized
  have hD := hD0.self (sz := s.heap.size)
  have hA : ∀ q : Nat, s.heap.size ≤ q → va_A (wM E A G z a t r h) s.heap.size q := fun q h => Or.inr h
  have hS : va_S (va_A (wM E A G z a t r h) s.heap.size) s.heap s.heap [] := va_S.rf
  have hl := lv_entry ([.ref (A 0)]) (n := 3) (Nat.le_of_ble_eq_true rfl)
  rw [lg_entry_eq]
  generalize (lg_sl ([.ref (A 0)]) ++ List.replicate (3 - (lg_sl ([.ref (A 0)])).length) Slot.unset).toArray = ls at hl ⊢
  have hl : lv_has ls 3 [(0, .ref (A 0))] := hl
  have hf26 := hts (.fieldLink RX5 26 "PhaseConverterModel" "thrown" "I") (List.mem_of_getElem? (i := 1) rfl)
  have hf7 := hts (.fieldLink RX5 7 "PhaseConverterModel" "z" "[I") (List.mem_of_getElem? (i := 2) rfl)
  have hiX5 : ∀ w ∈ u_ws RX5 TX5 15, w ∈ wsX5_meanVoltage := memIn [3, 4, 5, 6, 7, 8, 9, 10, 11, 12, 13, 14, 15, 16, 17] rfl
  refine lv_aload_n hx hb dX5_meanVoltage_0 rfl (lv_at hl 0 rfl) ?_
  refine lv_iconst (v := 0) hx hb dX5_meanVoltage_1 (by decide) ?_
  refine va_put (D := E.1) (ci := 5) (v := .int 0) (ty := .int) (C := RX5) (T := TX5) (N := 15) hx hb hts hiX5 tyX5 tyX5_ok nmX5 hown hK hP hD hS 0 rfl rfl 0 (by decide) hf26 (fun _ h9 => h9) rfl (by decide +kernel) rfl rfl (Nat.le_of_ble_eq_true rfl) dX5_meanVoltage_2 (fun H locs hP hD hS => ?_)
  have hP : va_P E.1 vwCl (wM E A (upd G 0 0) z a t r h) H := hP
  have hD : va_D _ (wM E A (upd G 0 0) z a t r h) := hD
  refine lv_iconst (v := 0) hx hb dX5_meanVoltage_5 (by decide) ?_
  refine lv_istore_n (lv' := [(1, .int 0), (0, .ref (A 0))]) hx hb dX5_meanVoltage_6 rfl hl (by decide) rfl (fun ls hl => ?_)
  refine lv_iconst (v := 0) hx hb dX5_meanVoltage_7 (by decide) ?_
  refine lv_istore_n (lv' := [(2, .int 0), (1, .int 0), (0, .ref (A 0))]) hx hb dX5_meanVoltage_8 rfl hl (by decide) rfl (fun ls hl => ?_)
  have L_9 : ∀ (n i : Nat) (x1 : Int32) (H : Heap) (locs : List Loc) (ls : Array Slot), (i + n = K) → (smL (fun i => z (63 + 6 * i)) n i x1 = smL (fun i => z (63 + 6 * i)) K 0 0) → va_P E.1 vwCl (wM E A (upd G 0 0) z a t r h) H → va_D (va_A (wM E A G z a t r h) s.heap.size) (wM E A (upd G 0 0) z a t r h) → va_S (va_A (wM E A G z a t r h) s.heap.size) s.heap H locs → lv_has ls 3 [(2, .int (nI i)), (1, .int x1), (0, .ref (A 0))] → W p l e (gR wsX5_meanVoltage 0 0) s m ([.ref (A 0)] : List Value).toArray below meth c H locs 0 0 (gMQ below E s (wM E A G z a t r h) (wM E A (upd G 0 0) z a t r h) (some (.double (mvD K (smL (fun i => z (63 + 6 * i)) K 0 0)))) [.ref (A 0)]) (F0 m 9 ls []) := by
    intro n
    induction n with
    | zero =>
      intro i x1 H locs ls hin hfn hP hD hS hl
      refine lv_iload_n hx hb dX5_meanVoltage_9 rfl (lv_at hl 0 rfl) ?_
      refine lv_aload_n hx hb dX5_meanVoltage_10 rfl (lv_at hl 2 rfl) ?_
      refine va_get (D := E.1) (ci := 5) (v := .ref (A 1)) (C := RX5) (T := TX5) (N := 15) hx hb hts hiX5 hown hK hP 0 rfl rfl 1 (by decide) hf7 (fun _ h9 => h9) rfl dX5_meanVoltage_11 ?_
      refine lv_bipush (v := 31) hx hb dX5_meanVoltage_14 (by decide) ?_
      refine gald (x := nI K) hx hb hK hP 1 rfl 31 rfl (by omega) (by decide) hK1 dX5_meanVoltage_16 ?_
      refine lv_icmp_ge (tgt := 41) hx hb dX5_meanVoltage_17 (by decide) (fun c_6 => ?_) (fun c_6 => absurd (nI_le (by omega) (by omega)) c_6)
      refine lv_aload_n hx hb dX5_meanVoltage_41 rfl (lv_at hl 2 rfl) ?_
      refine va_get (D := E.1) (ci := 5) (v := .ref (A 1)) (C := RX5) (T := TX5) (N := 15) hx hb hts hiX5 hown hK hP 0 rfl rfl 1 (by decide) hf7 (fun _ h9 => h9) rfl dX5_meanVoltage_42 ?_
      refine lv_bipush (v := 31) hx hb dX5_meanVoltage_45 (by decide) ?_
      refine gald (x := nI K) hx hb hK hP 1 rfl 31 rfl (by omega) (by decide) hK1 dX5_meanVoltage_47 ?_
      have hx1 : x1 = smL (fun i => z (63 + 6 * i)) K 0 0 := hfn
      refine lv_if_ne (tgt := 55) hx hb dX5_meanVoltage_48 (by decide) (fun c_7 => ?_) (fun c_7 => ?_)
      · have hK0 : ¬ K = 0 := fun q => c_7 (by rw [q]; rfl)
        refine lv_dconst1 hx hb dX5_meanVoltage_55 ?_
        refine lv_iload_n hx hb dX5_meanVoltage_56 rfl (lv_at hl 1 rfl) ?_
        refine lv_i2d hx hb dX5_meanVoltage_57 ?_
        refine lv_dmul hx hb dX5_meanVoltage_58 (by rw [fp_one]; exact fp_i _) ?_
        rw [fp_one]
        refine lv_aload_n hx hb dX5_meanVoltage_59 rfl (lv_at hl 2 rfl) ?_
        refine va_get (D := E.1) (ci := 5) (v := .ref (A 1)) (C := RX5) (T := TX5) (N := 15) hx hb hts hiX5 hown hK hP 0 rfl rfl 1 (by decide) hf7 (fun _ h9 => h9) rfl dX5_meanVoltage_60 ?_
        refine lv_bipush (v := 31) hx hb dX5_meanVoltage_63 (by decide) ?_
        refine gald (x := nI K) hx hb hK hP 1 rfl 31 rfl (by omega) (by decide) hK1 dX5_meanVoltage_65 ?_
        refine lv_i2d hx hb dX5_meanVoltage_66 ?_
        refine lv_ddiv hx hb dX5_meanVoltage_67 (fp_div c_7) ?_
        exact gretd hx hb hr hlocks hP hD hS (by rw [hx1]; exact (if_neg hK0).symm) rfl dX5_meanVoltage_68
      · have hK0 : K = 0 := by
          rcases Nat.eq_zero_or_pos K with q | q
          · exact q
          · exact absurd c_7 (nI_ne0 q (by omega))
        refine lv_dconst0 hx hb dX5_meanVoltage_51 ?_
        refine lv_goto (tgt := 68) hx hb dX5_meanVoltage_52 (by decide) ?_
        exact gretd hx hb hr hlocks hP hD hS (if_pos hK0).symm rfl dX5_meanVoltage_68
    | succ n ih =>
      intro i x1 H locs ls hin hfn hP hD hS hl
      refine lv_iload_n hx hb dX5_meanVoltage_9 rfl (lv_at hl 0 rfl) ?_
      refine lv_aload_n hx hb dX5_meanVoltage_10 rfl (lv_at hl 2 rfl) ?_
      refine va_get (D := E.1) (ci := 5) (v := .ref (A 1)) (C := RX5) (T := TX5) (N := 15) hx hb hts hiX5 hown hK hP 0 rfl rfl 1 (by decide) hf7 (fun _ h9 => h9) rfl dX5_meanVoltage_11 ?_
      refine lv_bipush (v := 31) hx hb dX5_meanVoltage_14 (by decide) ?_
      refine gald (x := nI K) hx hb hK hP 1 rfl 31 rfl (by omega) (by decide) hK1 dX5_meanVoltage_16 ?_
      refine lv_icmp_ge (tgt := 41) hx hb dX5_meanVoltage_17 (by decide) (fun c_6 => absurd c_6 (nI_ge (by omega) (by omega))) (fun c_6 => ?_)
      refine lv_iload_n hx hb dX5_meanVoltage_20 rfl (lv_at hl 1 rfl) ?_
      refine lv_aload_n hx hb dX5_meanVoltage_21 rfl (lv_at hl 2 rfl) ?_
      refine va_get (D := E.1) (ci := 5) (v := .ref (A 1)) (C := RX5) (T := TX5) (N := 15) hx hb hts hiX5 hown hK hP 0 rfl rfl 1 (by decide) hf7 (fun _ h9 => h9) rfl dX5_meanVoltage_22 ?_
      refine lv_bipush (v := 63) hx hb dX5_meanVoltage_25 (by decide) ?_
      refine lv_bipush (v := 6) hx hb dX5_meanVoltage_27 (by decide) ?_
      refine lv_iload_n hx hb dX5_meanVoltage_29 rfl (lv_at hl 0 rfl) ?_
      refine lv_imul hx hb dX5_meanVoltage_30 ?_
      refine lv_iadd hx hb dX5_meanVoltage_31 ?_
      refine gald (x := z (63 + 6 * i)) hx hb hK hP 1 rfl (63 + 6 * i) (by rw [show (63 : Int32) = nI 63 from rfl, show (6 : Int32) = nI 6 from rfl, pk_mul, nI_add]) (by omega) (by decide) rfl dX5_meanVoltage_32 ?_
      refine lv_iadd hx hb dX5_meanVoltage_33 ?_
      refine lv_istore_n (lv' := [(1, .int (x1 + z (63 + 6 * i))), (2, .int (nI i)), (0, .ref (A 0))]) hx hb dX5_meanVoltage_34 rfl hl (by decide) rfl (fun ls hl => ?_)
      refine lv_iinc (v := nI (i + 1)) (lv' := [(2, .int (nI (i + 1))), (1, .int (x1 + z (63 + 6 * i))), (0, .ref (A 0))]) hx hb dX5_meanVoltage_35 hl (k := 1) rfl (nI_1 _) (by decide) rfl (fun ls hl => ?_)
      refine lv_goto (tgt := 9) hx hb dX5_meanVoltage_38 (by decide) ?_
      exact ih (i + 1) (x1 + z (63 + 6 * i)) H locs ls (by omega) hfn hP hD hS hl
  exact L_9 K 0 0 H locs ls (by omega) rfl hP hD hS hl
set_option maxHeartbeats 4000000 in
set_option maxRecDepth 100000 in
theorem c_X4_meanVoltage (l : Launch) (E : EE) (Xp : Nat) (Cp : Nat → Nat) (sz nw : Int32) (pf : Nat → Int32) (Bp : Nat → Nat) (g z : Nat → Int32) (lo up pk : Int32) (Tp : Nat → Nat) (g2 z2 : Nat → Int32) (lo2 up2 pk2 : Int32) (Rp : Nat → Nat) (ln : Int32) (cd : Nat → Int32) (hrk : rOK sz nw) : GM l yX4_meanVoltage wsX4_meanVoltage 1 24 E (wO Xp Bp Tp Cp Rp ++ (wH E Cp sz nw pf ++ (wP E Bp g z lo up pk ++ (wP E Tp g2 z2 lo2 up2 pk2 ++ (wR E Rp ln cd))))) [.ref Xp] (wO Xp Bp Tp Cp Rp ++ (wH E Cp sz nw pf ++ (wP E Bp g z lo up pk ++ (wP E Tp g2 z2 lo2 up2 pk2 ++ (wR E Rp ln cd))))) (some (.double (mvD sz.toNatClampNeg (smL (fun i => pf ((nw.toNatClampNeg + 16 - i) % 16 * 6 + 0)) sz.toNatClampNeg 0 0)))) := by
  intro sz9
  refine Met.ofW (cc := cX4_meanVoltage) (maxL := 4) (ret := (some .double)) (by decide) rfl ?_
  intro p e s m args below meth c s₁ B hml hv
  obtain ⟨rfl, rfl, hP, hK, hD0, hN⟩ := hv
  have hx := B.exec
  have hb := B.bytes
  have hr := B.returns
  have hts := atoms_spec (ws := wsX4_meanVoltage) B.pre
  have hown : s.vm.findClass RX4 = some m.cls := findClass_of_methodNamed B.named
  have hlocks := B.notSynchronized
  have hD := hD0.self (sz := s.heap.size)
  have hA : ∀ q : Nat, s.heap.size ≤ q → va_A (wO Xp Bp Tp Cp Rp ++ (wH E Cp sz nw pf ++ (wP E Bp g z lo up pk ++ (wP E Tp g2 z2 lo2 up2 pk2 ++ (wR E Rp ln cd))))) s.heap.size q := fun q h => Or.inr h
  have hS : va_S (va_A (wO Xp Bp Tp Cp Rp ++ (wH E Cp sz nw pf ++ (wP E Bp g z lo up pk ++ (wP E Tp g2 z2 lo2 up2 pk2 ++ (wR E Rp ln cd))))) s.heap.size) s.heap s.heap [] := va_S.rf
  have hl := lv_entry ([.ref Xp]) (n := 4) (Nat.le_of_ble_eq_true rfl)
  rw [lg_entry_eq]
  generalize (lg_sl ([.ref Xp]) ++ List.replicate (4 - (lg_sl ([.ref Xp])).length) Slot.unset).toArray = ls at hl ⊢
  have hl : lv_has ls 4 [(0, .ref Xp)] := hl
  have hf24 := hts (.fieldLink RX4 24 "PhaseConverter" "history" "LPhaseConverter$History;") (List.mem_of_getElem? (i := 1) rfl)
  have hf156 := hts (.fieldLink RX4 156 "PhaseConverter$History" "size" "I") (List.mem_of_getElem? (i := 2) rfl)
  have hiX4 : ∀ w ∈ u_ws RX4 TX4 4, w ∈ wsX4_meanVoltage := memIn [10, 11, 12, 13] rfl
  have hiX0 : ∀ w ∈ u_ws RX0 TX0 3, w ∈ wsX4_meanVoltage := memIn [14, 15, 16] rfl
  obtain ⟨S, hS6, eS⟩ : ∃ S : Nat, S ≤ 16 ∧ sz = nI S := ⟨sz.toNatClampNeg, hrk.2.2.2, hrk.2.2.1⟩
  have eC : sz.toNatClampNeg = S := by rw [eS]; exact nI_clamp (by omega)
  rw [eC]
  refine lv_aload_n hx hb dX4_meanVoltage_0 rfl (lv_at hl 0 rfl) ?_
  refine va_get (D := E.1) (ci := 4) (v := .ref (Cp 0)) (C := RX4) (T := TX4) (N := 4) hx hb hts hiX4 hown hK hP 0 rfl rfl 2 (by decide) hf24 (fun _ h9 => h9) rfl dX4_meanVoltage_1 ?_
  refine va_get (D := E.1) (ci := 0) (v := .int sz) (C := RX0) (T := TX0) (N := 3) hx hb hts hiX0 hown hK hP 1 rfl rfl 1 (by decide) hf156 (fun _ h9 => h9) rfl dX4_meanVoltage_4 ?_
  refine lv_istore_n (lv' := [(1, .int sz), (0, .ref Xp)]) hx hb dX4_meanVoltage_7 rfl hl (by decide) rfl (fun ls hl => ?_)
  refine lv_iload_n hx hb dX4_meanVoltage_8 rfl (lv_at hl 0 rfl) ?_
  refine lv_iconst (v := 1) hx hb dX4_meanVoltage_9 (by decide) ?_
  refine lv_icmp_ge (tgt := 15) hx hb dX4_meanVoltage_10 (by decide) (fun c_1 => ?_) (fun c_1 => ?_)
  · have hS1 : ¬ S = 0 := fun q => by rw [eS, q] at c_1; exact absurd c_1 (by decide)
    have hs0 : sz ≠ 0 := by rw [eS]; exact nI_ne0 (by omega) (by omega)
    refine lv_iconst (v := 0) hx hb dX4_meanVoltage_15 (by decide) ?_
    refine lv_istore_n (lv' := [(2, .int 0), (1, .int sz), (0, .ref Xp)]) hx hb dX4_meanVoltage_16 rfl hl (by decide) rfl (fun ls hl => ?_)
    refine lv_iconst (v := 0) hx hb dX4_meanVoltage_17 (by decide) ?_
    refine lv_istore_n (lv' := [(3, .int 0), (2, .int 0), (1, .int sz), (0, .ref Xp)]) hx hb dX4_meanVoltage_18 rfl hl (by decide) rfl (fun ls hl => ?_)
    have L_19 : ∀ (n i : Nat) (x1 : Int32) (H : Heap) (locs : List Loc) (ls : Array Slot), (i + n = S) → (smL (fun i => pf ((nw.toNatClampNeg + 16 - i) % 16 * 6 + 0)) n i x1 = smL (fun i => pf ((nw.toNatClampNeg + 16 - i) % 16 * 6 + 0)) S 0 0) → va_P E.1 vwCl (wO Xp Bp Tp Cp Rp ++ (wH E Cp sz nw pf ++ (wP E Bp g z lo up pk ++ (wP E Tp g2 z2 lo2 up2 pk2 ++ (wR E Rp ln cd))))) H → va_D (va_A (wO Xp Bp Tp Cp Rp ++ (wH E Cp sz nw pf ++ (wP E Bp g z lo up pk ++ (wP E Tp g2 z2 lo2 up2 pk2 ++ (wR E Rp ln cd))))) s.heap.size) (wO Xp Bp Tp Cp Rp ++ (wH E Cp sz nw pf ++ (wP E Bp g z lo up pk ++ (wP E Tp g2 z2 lo2 up2 pk2 ++ (wR E Rp ln cd))))) → va_S (va_A (wO Xp Bp Tp Cp Rp ++ (wH E Cp sz nw pf ++ (wP E Bp g z lo up pk ++ (wP E Tp g2 z2 lo2 up2 pk2 ++ (wR E Rp ln cd))))) s.heap.size) s.heap H locs → lv_has ls 4 [(3, .int (nI i)), (2, .int x1), (1, .int sz), (0, .ref Xp)] → W p l e (gR wsX4_meanVoltage 1 24) s m ([.ref Xp] : List Value).toArray below meth c H locs 0 0 (gMQ below E s (wO Xp Bp Tp Cp Rp ++ (wH E Cp sz nw pf ++ (wP E Bp g z lo up pk ++ (wP E Tp g2 z2 lo2 up2 pk2 ++ (wR E Rp ln cd))))) (wO Xp Bp Tp Cp Rp ++ (wH E Cp sz nw pf ++ (wP E Bp g z lo up pk ++ (wP E Tp g2 z2 lo2 up2 pk2 ++ (wR E Rp ln cd))))) (some (.double (mvD S (smL (fun i => pf ((nw.toNatClampNeg + 16 - i) % 16 * 6 + 0)) S 0 0)))) [.ref Xp]) (F0 m 19 ls []) := by
      intro n
      induction n with
      | zero =>
        intro i x1 H locs ls hin hfn hP hD hS hl
        refine lv_iload_n hx hb dX4_meanVoltage_19 rfl (lv_at hl 0 rfl) ?_
        refine lv_iload_n hx hb dX4_meanVoltage_20 rfl (lv_at hl 2 rfl) ?_
        refine lv_icmp_ge (tgt := 42) hx hb dX4_meanVoltage_21 (by decide) (fun c_6 => ?_) (fun c_6 => absurd (by rw [eS]; exact nI_le (by omega) (by omega)) c_6)
        have hx1 : x1 = smL (fun i => pf ((nw.toNatClampNeg + 16 - i) % 16 * 6 + 0)) S 0 0 := hfn
        refine lv_iload_n hx hb dX4_meanVoltage_42 rfl (lv_at hl 1 rfl) ?_
        refine lv_i2d hx hb dX4_meanVoltage_43 ?_
        refine lv_iload_n hx hb dX4_meanVoltage_44 rfl (lv_at hl 2 rfl) ?_
        refine lv_i2d hx hb dX4_meanVoltage_45 ?_
        refine lv_ddiv hx hb dX4_meanVoltage_46 (fp_div hs0) ?_
        exact gretd hx hb hr hlocks hP hD hS (by rw [hx1, eS]; exact (if_neg hS1).symm) rfl dX4_meanVoltage_47
      | succ n ih =>
        intro i x1 H locs ls hin hfn hP hD hS hl
        refine lv_iload_n hx hb dX4_meanVoltage_19 rfl (lv_at hl 0 rfl) ?_
        refine lv_iload_n hx hb dX4_meanVoltage_20 rfl (lv_at hl 2 rfl) ?_
        refine lv_icmp_ge (tgt := 42) hx hb dX4_meanVoltage_21 (by decide) (fun c_6 => absurd c_6 (by rw [eS]; exact nI_ge (by omega) (by omega))) (fun c_6 => ?_)
        refine lv_iload_n hx hb dX4_meanVoltage_24 rfl (lv_at hl 1 rfl) ?_
        refine lv_aload_n hx hb dX4_meanVoltage_25 rfl (lv_at hl 3 rfl) ?_
        refine va_get (D := E.1) (ci := 4) (v := .ref (Cp 0)) (C := RX4) (T := TX4) (N := 4) hx hb hts hiX4 hown hK hP 0 rfl rfl 2 (by decide) hf24 (fun _ h9 => h9) rfl dX4_meanVoltage_26 ?_
        refine lv_iload_n hx hb dX4_meanVoltage_29 rfl (lv_at hl 0 rfl) ?_
        refine lv_iconst (v := 0) hx hb dX4_meanVoltage_30 (by decide) ?_
        refine gvMi (wO Xp Bp Tp Cp Rp) (wP E Bp g z lo up pk ++ (wP E Tp g2 z2 lo2 up2 pk2 ++ (wR E Rp ln cd))) (As := [.int (nI i), .int (nI 0)]) (rest := [.int x1]) ⟨hx, hb, hml, hown, hts⟩ (c_X0_part l E Cp sz nw pf nw.toNatClampNeg i 0 hrk.1 hrk.2.1 (by omega) (by omega)) (cwV 2 hts gX4_meanVoltage_X0_part rfl rfl rfl (by decide +kernel) ⟨Nat.le_of_ble_eq_true rfl, Nat.le_of_ble_eq_true rfl⟩) (va_recv hK hP (ci := 0) (q0 := 1) rfl rfl) hP hK hD hN hS hA rfl hl.1 rfl (Nat.le_of_ble_eq_true rfl) dX4_meanVoltage_31 ⟨Nat.le_refl _, Nat.le_refl _⟩ (fun H locs hP hD hS => ?_)
        refine lv_iadd hx hb dX4_meanVoltage_34 ?_
        refine lv_istore_n (lv' := [(2, .int (x1 + pf ((nw.toNatClampNeg + 16 - i) % 16 * 6 + 0))), (3, .int (nI i)), (1, .int sz), (0, .ref Xp)]) hx hb dX4_meanVoltage_35 rfl hl (by decide) rfl (fun ls hl => ?_)
        refine lv_iinc (v := nI (i + 1)) (lv' := [(3, .int (nI (i + 1))), (2, .int (x1 + pf ((nw.toNatClampNeg + 16 - i) % 16 * 6 + 0))), (1, .int sz), (0, .ref Xp)]) hx hb dX4_meanVoltage_36 hl (k := 1) rfl (nI_1 _) (by decide) rfl (fun ls hl => ?_)
        refine lv_goto (tgt := 19) hx hb dX4_meanVoltage_39 (by decide) ?_
        exact ih (i + 1) (x1 + pf ((nw.toNatClampNeg + 16 - i) % 16 * 6 + 0)) H locs ls (by omega) hfn hP hD hS hl
    exact L_19 S 0 0 _ _ ls (by omega) rfl hP hD hS hl
  · have hS0 : S = 0 := by
      rcases Nat.eq_zero_or_pos S with q | q
      · exact q
      · exact absurd (by rw [eS]; exact nI_le (a := 1) q (by omega)) c_1
    refine lv_dconst0 hx hb dX4_meanVoltage_13 ?_
    exact gretd hx hb hr hlocks hP hD hS (if_pos hS0).symm rfl dX4_meanVoltage_14
