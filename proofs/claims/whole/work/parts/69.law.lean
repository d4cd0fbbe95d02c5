/-! The law: its loop, and its start. -/
set_option maxHeartbeats 4000000 in
set_option maxRecDepth 100000 in
theorem law_loop {p : Program} {l : Launch} {e : Env} {s : State} {m : MethodId} {below : List Frame} {meth : Method} {c : Code} {b L : Nat} {xs : Nat → Int32} {E : EE} {cL : ClassId} {T0 : Nat → Nat} {Xp o : Nat} {Bp Tp Cp Rp A : Nat → Nat} (C : LC p l s m c b L xs E cL T0) (hr : meth.sig.returnType = ret) (hlocks : meth.locks = false) (hL : L ≤ 2048) :
    ∀ (n i : Nat) (w : va_W) (H : Heap) (locs : List Loc) (ls : Array Slot), L < i + n → i ≤ L → LV E cL Xp o Bp Tp Cp Rp A w → va_P E.1 vwCl w H → va_D (fun q => s.heap.size ≤ q) w → va_S (fun q => s.heap.size ≤ q) s.heap H locs → lv_has ls 9 [(4, .int (nI i)), (0, .ref b), (1, .ref Xp), (2, .ref (A 0)), (3, .ref o)] → W p l e room_1 s m #[Value.ref b] below meth c H locs (25 + i) (767 + 6 * i) (lw_Z below #[Value.ref b] s) (F0 m 23 ls []) := by
  obtain ⟨hx, hb, hml, hown, hts, hXs, hbl, hK, hKL, hN, hX, hst⟩ := id C
  have hbA : ¬ (fun q : Nat => s.heap.size ≤ q) b := Nat.not_le.mpr hbl
  intro n
  induction n with
  | zero =>
    intro i w H locs ls h1 h2
    exact absurd h1 (by omega)
  | succ n ih =>
    intro i w H locs ls hin hiL hV hP hD hS hl
    refine lv_iload hx hb dL_law_23 (lv_at hl 0 rfl) ?_
    refine lv_aload_n hx hb dL_law_25 rfl (lv_at hl 1 rfl) ?_
    refine va_slen hx hb hXs hbl hbA hS dL_law_26 ?_
    refine lv_iconst (v := 4) hx hb dL_law_27 (by decide) ?_
    refine lv_isub hx hb dL_law_28 ?_
    have e4 : (Int32.ofNat L - 4).toInt = (L : Int) - 4 := pk_sub_toInt (a := L) (b := 4) (by omega) (by omega)
    have ei : (nI i).toInt = (i : Int) := nI_toInt (by omega)
    refine lv_icmp_gt (tgt := 1005) hx hb dL_law_29 (by decide) (fun c9 => ?_) (fun c9 => ?_)
    · refine lv_iconst (v := 1) hx hb dL_law_1005 (by decide) ?_
      refine va_forget (fun q hq => hS.2.2 q hq) ?_
      refine W.widen (k := 624831) (n := 7221611) (by omega) (by omega) ?_
      exact lw_ret (d0 := s.drawn) (Drawn.sameBut.refl s.drawn lw_cs) hx hb hr hlocks dL_law_1006
    · rw [Int32.lt_iff_toInt_lt, e4, ei] at c9
      have hi4 : i + 4 ≤ L := by omega
      refine lv_aload_n hx hb dL_law_32 rfl (lv_at hl 1 rfl) ?_
      refine lv_iload hx hb dL_law_33 (lv_at hl 0 rfl) ?_
      refine va_sld hx hb hXs hbl hbA hS (vp_in_nI (by omega) (by omega)) dL_law_35 ?_
      refine lv_bipush (v := 31) hx hb dL_law_36 (by decide) ?_
      refine lv_iand hx hb dL_law_38 ?_
      have hc : 25 + i + 1 ≤ room_1.cells := Nat.le_trans (show 25 + i + 1 ≤ 2100 by omega) (by decide)
      have hs : 767 + 6 * i + 6 ≤ room_1.slots := Nat.le_trans (show 767 + 6 * i + 6 ≤ 13100 by omega) (by decide)
      have kk : ∀ (w1 : va_W) (H1 : Heap) (locs1 : List Loc) (ls1 : Array Slot), LV E cL Xp o Bp Tp Cp Rp A w1 → va_P E.1 vwCl w1 H1 → va_D (fun q => s.heap.size ≤ q) w1 → va_S (fun q => s.heap.size ≤ q) s.heap H1 locs1 → lv_has ls1 9 [(4, .int (nI i)), (0, .ref b), (1, .ref Xp), (2, .ref (A 0)), (3, .ref o)] → W p l e room_1 s m #[Value.ref b] below meth c H1 locs1 (25 + i + 1) (767 + 6 * i + 6) (lw_Z below #[Value.ref b] s) (F0 m 999 ls1 []) := by
        intro w1 H1 locs1 ls1 hV1 hP1 hD1 hS1 hl1
        refine lv_iinc (v := nI (i + 4)) (lv' := [(4, .int (nI (i + 4))), (0, .ref b), (1, .ref Xp), (2, .ref (A 0)), (3, .ref o)]) hx hb dL_law_999 hl1 (k := 0) rfl (nI_add i 4) (by decide) rfl (fun ls2 hl2 => ?_)
        refine lv_goto (tgt := 23) hx hb dL_law_1002 (by decide) ?_
        refine W.widen (k := 25 + (i + 4)) (n := 767 + 6 * (i + 4)) (by omega) (by omega) ?_
        exact ih (i + 4) w1 H1 locs1 ls2 (by omega) hi4 hV1 hP1 hD1 hS1 hl2
      obtain ⟨j, hj, ej⟩ := pk_andE (xs (nI i).toNatClampNeg) (m := 31) 5 (by decide)
      rw [ej]
      have tj : (nI j).toInt = (j : Int) := nI_toInt (by omega)
      by_cases h19 : 19 ≤ j
      · refine lv_tableOut (tgt := 999) hx hb dL_law_39 (Or.inr (by rw [tj]; omega)) (by decide) ?_
        refine W.widen (k := 25 + i + 1) (n := 767 + 6 * i + 6) (by omega) (by omega) ?_
        exact kk w H locs ls hV hP hD hS hl
      · obtain rfl | rfl | rfl | rfl | rfl | rfl | rfl | rfl | rfl | rfl | rfl | rfl | rfl | rfl | rfl | rfl | rfl | rfl | rfl : j = 0 ∨ j = 1 ∨ j = 2 ∨ j = 3 ∨ j = 4 ∨ j = 5 ∨ j = 6 ∨ j = 7 ∨ j = 8 ∨ j = 9 ∨ j = 10 ∨ j = 11 ∨ j = 12 ∨ j = 13 ∨ j = 14 ∨ j = 15 ∨ j = 16 ∨ j = 17 ∨ j = 18 := by omega
        · refine lv_tableIn (off := 89) (tgt := 128) hx hb dL_law_39 (by decide) (by decide) rfl (by decide) ?_
          exact lk_begin C hL hi4 hV hP hD hS hl hc hs kk
        · refine lv_tableIn (off := 145) (tgt := 184) hx hb dL_law_39 (by decide) (by decide) rfl (by decide) ?_
          exact lk_set C hL hi4 hV hP hD hS hl hc hs kk
        · refine lv_tableIn (off := 213) (tgt := 252) hx hb dL_law_39 (by decide) (by decide) rfl (by decide) ?_
          exact lk_setting C hL hi4 hV hP hD hS hl hc hs kk
        · refine lv_tableIn (off := 269) (tgt := 308) hx hb dL_law_39 (by decide) (by decide) rfl (by decide) ?_
          exact lk_start C hL hi4 hV hP hD hS hl hc hs kk
        · refine lv_tableIn (off := 313) (tgt := 352) hx hb dL_law_39 (by decide) (by decide) rfl (by decide) ?_
          exact lk_stop C hL hi4 hV hP hD hS hl hc hs kk
        · refine lv_tableIn (off := 326) (tgt := 365) hx hb dL_law_39 (by decide) (by decide) rfl (by decide) ?_
          exact lk_run C hL hi4 hV hP hD hS hl hc hs kk
        · refine lv_tableIn (off := 382) (tgt := 421) hx hb dL_law_39 (by decide) (by decide) rfl (by decide) ?_
          exact lk_append C hL hi4 hV hP hD hS hl hc hs kk
        · refine lv_tableIn (off := 438) (tgt := 477) hx hb dL_law_39 (by decide) (by decide) rfl (by decide) ?_
          exact lk_clearBuffer C hL hi4 hV hP hD hS hl hc hs kk
        · refine lv_tableIn (off := 451) (tgt := 490) hx hb dL_law_39 (by decide) (by decide) rfl (by decide) ?_
          exact lk_firstError C hL hi4 hV hP hD hS hl hc hs kk
        · refine lv_tableIn (off := 464) (tgt := 503) hx hb dL_law_39 (by decide) (by decide) rfl (by decide) ?_
          exact lk_play C hL hi4 hV hP hD hS hl hc hs kk
        · refine lv_tableIn (off := 508) (tgt := 547) hx hb dL_law_39 (by decide) (by decide) rfl (by decide) ?_
          exact lk_count C hL hi4 hV hP hD hS hl hc hs kk
        · refine lv_tableIn (off := 564) (tgt := 603) hx hb dL_law_39 (by decide) (by decide) rfl (by decide) ?_
          exact lk_phase C hL hi4 hV hP hD hS hl hc hs kk
        · refine lv_tableIn (off := 632) (tgt := 671) hx hb dL_law_39 (by decide) (by decide) rfl (by decide) ?_
          exact lk_record C hL hi4 hV hP hD hS hl hc hs kk
        · refine lv_tableIn (off := 700) (tgt := 739) hx hb dL_law_39 (by decide) (by decide) rfl (by decide) ?_
          exact lk_ifLoaded C hL hi4 hV hP hD hS hl hc hs kk
        · refine lv_tableIn (off := 780) (tgt := 819) hx hb dL_law_39 (by decide) (by decide) rfl (by decide) ?_
          exact lk_settles C hL hi4 hV hP hD hS hl hc hs kk
        · refine lv_tableIn (off := 836) (tgt := 875) hx hb dL_law_39 (by decide) (by decide) rfl (by decide) ?_
          exact lk_greatestLoad C hL hi4 hV hP hD hS hl hc hs kk
        · refine lv_tableIn (off := 892) (tgt := 931) hx hb dL_law_39 (by decide) (by decide) rfl (by decide) ?_
          exact lk_unbalance C hL hi4 hV hP hD hS hl hc hs kk
        · refine lv_tableIn (off := 905) (tgt := 944) hx hb dL_law_39 (by decide) (by decide) rfl (by decide) ?_
          exact lk_meanVoltage C hL hi4 hV hP hD hS hl hc hs kk
        · refine lv_tableIn (off := 946) (tgt := 985) hx hb dL_law_39 (by decide) (by decide) rfl (by decide) ?_
          exact lk_digest C hL hi4 hV hP hD hS hl hc hs kk
theorem law_LV0 {E : EE} {cL : ClassId} {Xp o : Nat} {Bp Tp Cp Rp A : Nat → Nat} : LV E cL Xp o Bp Tp Cp Rp A ((wX E Xp Bp Tp Cp Rp 0 0 (fun _ => 0) firstT (rsZ 2) 0 0 0 firstT (rsZ 2) 0 0 0 0 (fun _ => 0) ++ [(o, cO cL (fun _ => 0))]) ++ wM E A (fun _ => 0) (freshZ 2 (fun _ => 0)) (fun _ => 0) (fun _ => 0) (fun _ => 0) 0) := by
  have e : wX E Xp Bp Tp Cp Rp 0 0 (fun _ => 0) firstT (rsZ 2) 0 0 0 firstT (rsZ 2) 0 0 0 0 (fun _ => 0) = wX E Xp Bp Tp Cp Rp 0 0 (fun _ => 0) firstT (freshZ 2 (fun _ => 0)) 0 0 0 firstT (rsZ 2) 0 0 0 (nI 0) (fun _ => 0) :=
    congrArg (fun q => wO Xp Bp Tp Cp Rp ++ (wH E Cp 0 0 (fun _ => 0) ++ (q ++ (wP E Tp firstT (rsZ 2) 0 0 0 ++ (wR E Rp 0 (fun _ => 0)))))) (wP_fresh (z := fun _ => 0))
  rw [e]
  exact LV_mk (L := 0) (RLs_fresh (by decide) (fun _ _ => rfl)) (by omega) rfl
set_option maxHeartbeats 4000000 in
set_option maxRecDepth 100000 in
/-- THE LAW, from its entry -/
theorem whole_start {p : Program} {e : Env} {s : State} {m : MethodId} {below : List Frame} {meth : Method} {c : Code} (l : Launch) (hflags : l.flags = flags0) {b L : Nat} {xs : Nat → Int32} (hL : L ≤ 2048) (C0 : lw_At p s m meth c b L xs) : W p l e room_1 s m #[Value.ref b] below meth c s.heap [] 0 0 (lw_Z below #[Value.ref b] s) (entryFrame m ([Value.ref b] : List Value).toArray 9) := by
  obtain ⟨E, cL, T0, C, hC⟩ := lw_facts hflags C0
  obtain ⟨-, -, hr, -, -, hts0, -, -, hlocks, -⟩ := id C0
  obtain ⟨hx, hb, hml, hown, hts, hXs, hbl, hK, hKL, hN, hX, hst⟩ := id C
  have hA : ∀ q : Nat, s.heap.size ≤ q → (fun q : Nat => s.heap.size ≤ q) q := fun _ h => h
  have hS : va_S (fun q : Nat => s.heap.size ≤ q) s.heap s.heap [] := va_S.rf
  have hP : va_P E.1 vwCl [] s.heap := fun k q h => by simp at h
  have hD : va_D (fun q : Nat => s.heap.size ≤ q) [] := ⟨fun i j p q h => by simp at h, fun k q h => by simp at h⟩
  have hl := lv_entry ([.ref b]) (n := 9) (Nat.le_of_ble_eq_true rfl)
  rw [lg_entry_eq]
  generalize (lg_sl ([.ref b]) ++ List.replicate (9 - (lg_sl ([.ref b])).length) Slot.unset).toArray = ls at hl ⊢
  have hl : lv_has ls 9 [(0, .ref b)] := hl
  refine va_new (D := E.1) (ci := 4) (fs := [.null, .null, .null, .null]) (C := RX4) (T := TX4) (N := 4) hx hb hts0 inX4 tyX4 tyX4_ok hown (hts0 (.classLink RL 8 RX4) (List.mem_of_getElem? (i := 48) rfl)) (hts0 (.instantiable RX4 4) (List.mem_of_getElem? (i := 49) rfl)) (hts0 (.initialized RX4) (List.mem_of_getElem? (i := 34) rfl)) hK hP hD hS hA rfl (fun j hj => by rcases (show j = 0 ∨ j = 1 ∨ j = 2 ∨ j = 3 by omega) with rfl | rfl | rfl | rfl <;> rfl) (Nat.le_of_ble_eq_true rfl) (Nat.le_of_ble_eq_true rfl) dL_law_0 (fun q0 H hP hD hS => ?_)
  have hP : va_P E.1 vwCl [(q0, .inr (4, [.null, .null, .null, .null]))] H := hP
  have hD : va_D (fun q : Nat => s.heap.size ≤ q) [(q0, .inr (4, [.null, .null, .null, .null]))] := hD
  refine lv_dup hx hb dL_law_3 rfl ?_
  refine gni [] (As := []) (rest := [.ref q0]) ⟨hx, hb, hml, hown, hts⟩ (c_X4_init l E T0 q0) (cwI 0 hts ggL_law_X4_init rfl rfl rfl (hts0 (.initialized RX4) (List.mem_of_getElem? (i := 34) rfl)) (hts0 (.methodLink RL 58 yX4_init) (List.mem_of_getElem? (i := 50) rfl)) (hts0 (.instanceMethod yX4_init) (List.mem_of_getElem? (i := 51) rfl)) rfl (by decide +kernel) ⟨Nat.le_of_ble_eq_true rfl, Nat.le_of_ble_eq_true rfl⟩) hP hK hD hN hX hC hS hA rfl hl.1 rfl (Nat.le_of_ble_eq_true rfl) dL_law_4 ⟨Nat.le_of_ble_eq_true rfl, Nat.le_of_ble_eq_true rfl⟩ (fun u H locs hP hD hS => ?_)
  obtain ⟨Bp, Tp, Cp, Rp⟩ := u
  have hP : va_P E.1 vwCl (wX E q0 Bp Tp Cp Rp 0 0 (fun _ => 0) firstT (rsZ 2) 0 0 0 firstT (rsZ 2) 0 0 0 0 (fun _ => 0)) H := hP
  have hD : va_D (fun q : Nat => s.heap.size ≤ q) (wX E q0 Bp Tp Cp Rp 0 0 (fun _ => 0) firstT (rsZ 2) 0 0 0 firstT (rsZ 2) 0 0 0 0 (fun _ => 0)) := hD
  refine lv_astore_n (lv' := [(1, .ref q0), (0, .ref b)]) hx hb dL_law_7 rfl hl (by decide) rfl (fun ls hl => ?_)
  refine va_new (D := E.1) (ci := 5) (fs := [.int 0, .null, .null, .int 0, .null, .int 0, .int 0, .int 0, .int 0, .int 0, .int 0, .int 0, .int 0, .null, .long 0]) (C := RX5) (T := TX5) (N := 15) hx hb hts0 inX5 tyX5 tyX5_ok hown (hts0 (.classLink RL 59 RX5) (List.mem_of_getElem? (i := 668) rfl)) (hts0 (.instantiable RX5 15) (List.mem_of_getElem? (i := 669) rfl)) (hts0 (.initialized RX5) (List.mem_of_getElem? (i := 39) rfl)) hK hP hD hS hA rfl (fun j hj => by rcases (show j = 0 ∨ j = 1 ∨ j = 2 ∨ j = 3 ∨ j = 4 ∨ j = 5 ∨ j = 6 ∨ j = 7 ∨ j = 8 ∨ j = 9 ∨ j = 10 ∨ j = 11 ∨ j = 12 ∨ j = 13 ∨ j = 14 by omega) with rfl | rfl | rfl | rfl | rfl | rfl | rfl | rfl | rfl | rfl | rfl | rfl | rfl | rfl | rfl <;> rfl) (Nat.le_of_ble_eq_true rfl) (Nat.le_of_ble_eq_true rfl) dL_law_8 (fun q1 H hP hD hS => ?_)
  refine lv_dup hx hb dL_law_11 rfl ?_
  refine gni (wX E q0 Bp Tp Cp Rp 0 0 (fun _ => 0) firstT (rsZ 2) 0 0 0 firstT (rsZ 2) 0 0 0 0 (fun _ => 0)) (As := []) (rest := [.ref q1]) ⟨hx, hb, hml, hown, hts⟩ (c_X5_init l E T0 q1) (cwI 0 hts ggL_law_X5_init rfl rfl rfl (hts0 (.initialized RX5) (List.mem_of_getElem? (i := 39) rfl)) (hts0 (.methodLink RL 61 yX5_init) (List.mem_of_getElem? (i := 670) rfl)) (hts0 (.instanceMethod yX5_init) (List.mem_of_getElem? (i := 671) rfl)) rfl (by decide +kernel) ⟨Nat.le_of_ble_eq_true rfl, Nat.le_of_ble_eq_true rfl⟩) hP hK hD hN hX hC hS hA rfl hl.1 rfl (Nat.le_of_ble_eq_true rfl) dL_law_12 ⟨Nat.le_of_ble_eq_true rfl, Nat.le_of_ble_eq_true rfl⟩ (fun u H locs hP hD hS => ?_)
  obtain ⟨A, hA0⟩ := u
  subst hA0
  have hP : va_P E.1 vwCl (wX E q0 Bp Tp Cp Rp 0 0 (fun _ => 0) firstT (rsZ 2) 0 0 0 firstT (rsZ 2) 0 0 0 0 (fun _ => 0) ++ wM E A (fun _ => 0) (freshZ 2 (fun _ => 0)) (fun _ => 0) (fun _ => 0) (fun _ => 0) 0) H := hP
  have hD : va_D (fun q : Nat => s.heap.size ≤ q) (wX E q0 Bp Tp Cp Rp 0 0 (fun _ => 0) firstT (rsZ 2) 0 0 0 firstT (rsZ 2) 0 0 0 0 (fun _ => 0) ++ wM E A (fun _ => 0) (freshZ 2 (fun _ => 0)) (fun _ => 0) (fun _ => 0) (fun _ => 0) 0) := hD
  refine lv_astore_n (lv' := [(2, .ref (A 0)), (1, .ref q0), (0, .ref b)]) hx hb dL_law_15 rfl hl (by decide) rfl (fun ls hl => ?_)
  refine lv_iconst (v := 1) hx hb dL_law_16 (by decide) ?_
  refine va_newa (atype := .long) (a0 := (1, .inr (.inl (fun _ => 0)))) hx hb (hts0 (.arrayClass .long) (List.mem_of_getElem? (i := 935) rfl)) rfl hK hP hD hS hA (fun cA => rfl) (by decide) (by decide) (Nat.le_of_ble_eq_true rfl) (Nat.le_of_ble_eq_true rfl) (Nat.le_of_ble_eq_true rfl) dL_law_17 (fun o cA H hK1 hP hD hS => ?_)
  have ec : cA = cL := Option.some.inj ((va_nm_long (hK1.2 2 _ rfl).2).symm.trans (va_nm_long (hKL.2 0 _ rfl).2))
  subst ec
  have hP := hP.sub (ws' := (wX E q0 Bp Tp Cp Rp 0 0 (fun _ => 0) firstT (rsZ 2) 0 0 0 firstT (rsZ 2) 0 0 0 0 (fun _ => 0) ++ [(o, cO cA (fun _ => 0))]) ++ wM E A (fun _ => 0) (freshZ 2 (fun _ => 0)) (fun _ => 0) (fun _ => 0) (fun _ => 0) 0) [0, 1, 2, 3, 4, 5, 6, 7, 8, 9, 10, 11, 12, 13, 14, 15, 16, 17, 18, 24, 19, 20, 21, 22, 23] rfl
  have hD := hD.sub (ws' := (wX E q0 Bp Tp Cp Rp 0 0 (fun _ => 0) firstT (rsZ 2) 0 0 0 firstT (rsZ 2) 0 0 0 0 (fun _ => 0) ++ [(o, cO cA (fun _ => 0))]) ++ wM E A (fun _ => 0) (freshZ 2 (fun _ => 0)) (fun _ => 0) (fun _ => 0) (fun _ => 0) 0) [0, 1, 2, 3, 4, 5, 6, 7, 8, 9, 10, 11, 12, 13, 14, 15, 16, 17, 18, 24, 19, 20, 21, 22, 23] (by decide) rfl
  refine lv_astore_n (lv' := [(3, .ref o), (2, .ref (A 0)), (1, .ref q0), (0, .ref b)]) hx hb dL_law_19 rfl hl (by decide) rfl (fun ls hl => ?_)
  refine lv_iconst (v := 0) hx hb dL_law_20 (by decide) ?_
  refine lv_istore (lv' := [(4, .int 0), (3, .ref o), (2, .ref (A 0)), (1, .ref q0), (0, .ref b)]) hx hb dL_law_21 hl (by decide) rfl (fun ls hl => ?_)
  refine W.widen (k := 25 + 0) (n := 767 + 6 * 0) (Nat.le_of_ble_eq_true rfl) (Nat.le_of_ble_eq_true rfl) ?_
  exact law_loop C hr hlocks hL (L + 1) 0 _ H _ ls (by omega) (Nat.zero_le L) law_LV0 hP hD hS (lv_sub hl [0, 4, 3, 2, 1] rfl)
