set_option maxHeartbeats 4000000 in
set_option maxRecDepth 100000 in
theorem wg_begin (l : Launch) (E : EE) (cL : ClassId) (T0 : Nat → Nat) (wx : va_W) (Xp o : Nat) (fs : List Value) (f : Nat → Int64) (v1 : Int32) (wx1 : va_W) (ans : Int32) (h0 : wx[0]? = some (Xp, .inr (4, fs))) (hM : GX l yX4_begin wsX4_begin 2 42 E T0 wx [.ref Xp, .int v1] wx1 (some (.int ans))) : GL l yL_begin wsL_begin E cL T0 (wx ++ [(o, cO cL f)]) [.ref Xp, .int v1, .ref o] (wx1 ++ [(o, cO cL (vp_updL f 0 ans.toInt64))]) 0 := by
  intro sz
  refine va_MetW (cc := cL_begin) (maxL := 4) (ret := (some .int)) (by decide) rfl ?_
  intro p e s m args below meth c s₁ B hml hv
  obtain ⟨⟨⟨rfl, rfl, hP, hK, hD0, hN⟩, hX⟩, hKL⟩ := hv
  have hx := B.exec
  have hb := B.bytes
  have hr := B.returns
  have hts := atoms_spec (ws := wsL_begin) B.pre
  have hown : s.vm.findClass RL = some m.cls := findClass_of_methodNamed B.named
  have hlocks := B.notSynchronized
  have hD := hD0.self (sz := s.heap.size)
  have hA : ∀ q : Nat, s.heap.size ≤ q → va_A (wx ++ [(o, cO cL f)]) s.heap.size q := fun q h => Or.inr h
  have hS : va_S (va_A (wx ++ [(o, cO cL f)]) s.heap.size) s.heap s.heap [] := va_S.rf
  have hl := lv_entry ([.ref Xp, .int v1, .ref o]) (n := 4) (Nat.le_of_ble_eq_true rfl)
  rw [lg_entry_eq]
  generalize (lg_sl ([.ref Xp, .int v1, .ref o]) ++ List.replicate (4 - (lg_sl ([.ref Xp, .int v1, .ref o])).length) Slot.unset).toArray = ls at hl ⊢
  have hl : lv_has ls 4 [(0, .ref Xp), (1, .int v1), (2, .ref o)] := hl
  refine lv_aload_n hx hb dL_begin_0 rfl (lv_at hl 2 rfl) ?_
  refine lv_iconst (v := 0) hx hb dL_begin_1 (by decide) ?_
  refine lv_aload_n hx hb dL_begin_2 rfl (lv_at hl 0 rfl) ?_
  refine lv_iload_n hx hb dL_begin_3 rfl (lv_at hl 1 rfl) ?_
  refine xvMi [] [(o, cO cL f)] (As := [.int v1]) (rest := [.int 0, .ref o]) ⟨hx, hb, hml, hown, hts⟩ hM (cwV 1 hts gL_begin_X4_begin rfl rfl rfl (by decide +kernel) ⟨Nat.le_of_ble_eq_true rfl, Nat.le_of_ble_eq_true rfl⟩) (va_recv hK hP (ci := 4) (q0 := 0) rfl (gat0 h0)) hP hK hD hN hX hS hA rfl hl.1 rfl (Nat.le_of_ble_eq_true rfl) dL_begin_4 ⟨Nat.le_of_ble_eq_true rfl, Nat.le_of_ble_eq_true rfl⟩ (fun H locs hP hD hS => ?_)
  have hP : va_P E.1 vwCl (wx1 ++ [(o, cO cL f)]) H := hP
  have hD : va_D (va_A (wx ++ [(o, cO cL f)]) s.heap.size) (wx1 ++ [(o, cO cL f)]) := hD
  refine lv_i2l hx hb dL_begin_7 (v := ans.toInt64) rfl ?_
  refine va_last hx hb hKL hP hD hS wx1.length 0 (at_end _ _) rfl (by unfold vp_in; decide) dL_begin_8 (fun H locs hP hD hS => ?_)
  refine lv_goto (tgt := 15) hx hb dL_begin_9 (by decide) ?_
  refine lv_iconst (v := 0) hx hb dL_begin_15 (by decide) ?_
  exact gretL hx hb hr hlocks hP hD hS rfl (by rw [set_end]; rfl) dL_begin_16 (by omega) (by omega)
set_option maxHeartbeats 4000000 in
set_option maxRecDepth 100000 in
theorem wt_begin_IAE (l : Launch) (E : EE) (cL : ClassId) (T0 : Nat → Nat) (wx : va_W) (Xp o : Nat) (fs : List Value) (f : Nat → Int64) (v1 : Int32) (h0 : wx[0]? = some (Xp, .inr (4, fs))) (hM : GT l yX4_begin wsX4_begin 6 82 E T0 wx [.ref Xp, .int v1] IAE) : GL l yL_begin wsL_begin E cL T0 (wx ++ [(o, cO cL f)]) [.ref Xp, .int v1, .ref o] (wx ++ [(o, cO cL f)]) 1 := by
  intro sz
  refine va_MetW (cc := cL_begin) (maxL := 4) (ret := (some .int)) (by decide) rfl ?_
  intro p e s m args below meth c s₁ B hml hv
  obtain ⟨⟨⟨rfl, rfl, hP, hK, hD0, hN⟩, hX⟩, hKL⟩ := hv
  have hx := B.exec
  have hb := B.bytes
  have hr := B.returns
  have hts := atoms_spec (ws := wsL_begin) B.pre
  have hown : s.vm.findClass RL = some m.cls := findClass_of_methodNamed B.named
  have hlocks := B.notSynchronized
  have hD := hD0.self (sz := s.heap.size)
  have hA : ∀ q : Nat, s.heap.size ≤ q → va_A (wx ++ [(o, cO cL f)]) s.heap.size q := fun q h => Or.inr h
  have hS : va_S (va_A (wx ++ [(o, cO cL f)]) s.heap.size) s.heap s.heap [] := va_S.rf
  have hl := lv_entry ([.ref Xp, .int v1, .ref o]) (n := 4) (Nat.le_of_ble_eq_true rfl)
  rw [lg_entry_eq]
  generalize (lg_sl ([.ref Xp, .int v1, .ref o]) ++ List.replicate (4 - (lg_sl ([.ref Xp, .int v1, .ref o])).length) Slot.unset).toArray = ls at hl ⊢
  have hl : lv_has ls 4 [(0, .ref Xp), (1, .int v1), (2, .ref o)] := hl
  refine lv_aload_n hx hb dL_begin_0 rfl (lv_at hl 2 rfl) ?_
  refine lv_iconst (v := 0) hx hb dL_begin_1 (by decide) ?_
  refine lv_aload_n hx hb dL_begin_2 rfl (lv_at hl 0 rfl) ?_
  refine lv_iload_n hx hb dL_begin_3 rfl (lv_at hl 1 rfl) ?_
  have htab : c.exceptionTable.toList = tableOf [(0, 9, 12, 13)] := vx_table (x := yL_begin) B (hts _ List.mem_cons_self)
  refine gvT (As := [.int v1]) (rest := [.int 0, .ref o]) ⟨hx, hb, hml, hown, hts⟩ hM (cwV 1 hts gL_begin_X4_begin rfl rfl rfl (by decide +kernel) ⟨Nat.le_of_ble_eq_true rfl, Nat.le_of_ble_eq_true rfl⟩) (va_recv hK hP (ci := 4) (q0 := 0) rfl (gat0 h0)) hP hK hD hN hX hS hA rfl hl.1 rfl (Nat.le_of_ble_eq_true rfl) dL_begin_4 ⟨Nat.le_of_ble_eq_true rfl, Nat.le_of_ble_eq_true rfl⟩ (fun q9 ce H locs hP hD hS hce hcv hcl => ?_)
  refine vx_catch hown [] ⟨0, 9, 12, 13⟩ [] htab (fun z9 h9 => absurd h9 List.not_mem_nil) (by decide) (by decide) (hts (.classLink RL 13 "java/lang/IllegalArgumentException") (List.mem_of_getElem? (i := 1) rfl)) (va_Nw.use rfl hX.2.2.2.2.2.2.1.2.2.2.1) hce hcv hcl ?_
  refine lv_astore_n (lv' := [(3, .ref q9), (0, .ref Xp), (1, .int v1), (2, .ref o)]) hx hb dL_begin_12 rfl hl (by decide) rfl (fun ls hl => ?_)
  refine lv_iconst (v := 1) hx hb dL_begin_13 (by decide) ?_
  exact gretL hx hb hr hlocks hP hD hS rfl rfl dL_begin_14 (by omega) (by omega)
set_option maxHeartbeats 4000000 in
set_option maxRecDepth 100000 in
theorem wg_set (l : Launch) (E : EE) (cL : ClassId) (T0 : Nat → Nat) (wx : va_W) (Xp o : Nat) (fs : List Value) (f : Nat → Int64) (v1 v2 : Int32) (wx1 : va_W) (ans : Int32) (h0 : wx[0]? = some (Xp, .inr (4, fs))) (hM : GX l yX4_set wsX4_set 2 41 E T0 wx [.ref Xp, .int v1, .int v2] wx1 (some (.int ans))) : GL l yL_set wsL_set E cL T0 (wx ++ [(o, cO cL f)]) [.ref Xp, .int v1, .int v2, .ref o] (wx1 ++ [(o, cO cL (vp_updL f 0 ans.toInt64))]) 0 := by
  intro sz
  refine va_MetW (cc := cL_set) (maxL := 5) (ret := (some .int)) (by decide) rfl ?_
  intro p e s m args below meth c s₁ B hml hv
  obtain ⟨⟨⟨rfl, rfl, hP, hK, hD0, hN⟩, hX⟩, hKL⟩ := hv
  have hx := B.exec
  have hb := B.bytes
  have hr := B.returns
  have hts := atoms_spec (ws := wsL_set) B.pre
  have hown : s.vm.findClass RL = some m.cls := findClass_of_methodNamed B.named
  have hlocks := B.notSynchronized
  have hD := hD0.self (sz := s.heap.size)
  have hA : ∀ q : Nat, s.heap.size ≤ q → va_A (wx ++ [(o, cO cL f)]) s.heap.size q := fun q h => Or.inr h
  have hS : va_S (va_A (wx ++ [(o, cO cL f)]) s.heap.size) s.heap s.heap [] := va_S.rf
  have hl := lv_entry ([.ref Xp, .int v1, .int v2, .ref o]) (n := 5) (Nat.le_of_ble_eq_true rfl)
  rw [lg_entry_eq]
  generalize (lg_sl ([.ref Xp, .int v1, .int v2, .ref o]) ++ List.replicate (5 - (lg_sl ([.ref Xp, .int v1, .int v2, .ref o])).length) Slot.unset).toArray = ls at hl ⊢
  have hl : lv_has ls 5 [(0, .ref Xp), (1, .int v1), (2, .int v2), (3, .ref o)] := hl
  refine lv_aload_n hx hb dL_set_0 rfl (lv_at hl 3 rfl) ?_
  refine lv_iconst (v := 0) hx hb dL_set_1 (by decide) ?_
  refine lv_aload_n hx hb dL_set_2 rfl (lv_at hl 0 rfl) ?_
  refine lv_iload_n hx hb dL_set_3 rfl (lv_at hl 1 rfl) ?_
  refine lv_iload_n hx hb dL_set_4 rfl (lv_at hl 2 rfl) ?_
  refine xvMi [] [(o, cO cL f)] (As := [.int v1, .int v2]) (rest := [.int 0, .ref o]) ⟨hx, hb, hml, hown, hts⟩ hM (cwV 2 hts gL_set_X4_set rfl rfl rfl (by decide +kernel) ⟨Nat.le_of_ble_eq_true rfl, Nat.le_of_ble_eq_true rfl⟩) (va_recv hK hP (ci := 4) (q0 := 0) rfl (gat0 h0)) hP hK hD hN hX hS hA rfl hl.1 rfl (Nat.le_of_ble_eq_true rfl) dL_set_5 ⟨Nat.le_of_ble_eq_true rfl, Nat.le_of_ble_eq_true rfl⟩ (fun H locs hP hD hS => ?_)
  have hP : va_P E.1 vwCl (wx1 ++ [(o, cO cL f)]) H := hP
  have hD : va_D (va_A (wx ++ [(o, cO cL f)]) s.heap.size) (wx1 ++ [(o, cO cL f)]) := hD
  refine lv_i2l hx hb dL_set_8 (v := ans.toInt64) rfl ?_
  refine va_last hx hb hKL hP hD hS wx1.length 0 (at_end _ _) rfl (by unfold vp_in; decide) dL_set_9 (fun H locs hP hD hS => ?_)
  refine lv_goto (tgt := 21) hx hb dL_set_10 (by decide) ?_
  refine lv_iconst (v := 0) hx hb dL_set_21 (by decide) ?_
  exact gretL hx hb hr hlocks hP hD hS rfl (by rw [set_end]; rfl) dL_set_22 (by omega) (by omega)
set_option maxHeartbeats 4000000 in
set_option maxRecDepth 100000 in
theorem wt_set_IOE (l : Launch) (E : EE) (cL : ClassId) (T0 : Nat → Nat) (wx : va_W) (Xp o : Nat) (fs : List Value) (f : Nat → Int64) (v1 v2 : Int32) (h0 : wx[0]? = some (Xp, .inr (4, fs))) (hM : GT l yX4_set wsX4_set 6 82 E T0 wx [.ref Xp, .int v1, .int v2] IOE) : GL l yL_set wsL_set E cL T0 (wx ++ [(o, cO cL f)]) [.ref Xp, .int v1, .int v2, .ref o] (wx ++ [(o, cO cL f)]) 1 := by
  intro sz
  refine va_MetW (cc := cL_set) (maxL := 5) (ret := (some .int)) (by decide) rfl ?_
  intro p e s m args below meth c s₁ B hml hv
  obtain ⟨⟨⟨rfl, rfl, hP, hK, hD0, hN⟩, hX⟩, hKL⟩ := hv
  have hx := B.exec
  have hb := B.bytes
  have hr := B.returns
  have hts := atoms_spec (ws := wsL_set) B.pre
  have hown : s.vm.findClass RL = some m.cls := findClass_of_methodNamed B.named
  have hlocks := B.notSynchronized
  have hD := hD0.self (sz := s.heap.size)
  have hA : ∀ q : Nat, s.heap.size ≤ q → va_A (wx ++ [(o, cO cL f)]) s.heap.size q := fun q h => Or.inr h
  have hS : va_S (va_A (wx ++ [(o, cO cL f)]) s.heap.size) s.heap s.heap [] := va_S.rf
  have hl := lv_entry ([.ref Xp, .int v1, .int v2, .ref o]) (n := 5) (Nat.le_of_ble_eq_true rfl)
  rw [lg_entry_eq]
  generalize (lg_sl ([.ref Xp, .int v1, .int v2, .ref o]) ++ List.replicate (5 - (lg_sl ([.ref Xp, .int v1, .int v2, .ref o])).length) Slot.unset).toArray = ls at hl ⊢
  have hl : lv_has ls 5 [(0, .ref Xp), (1, .int v1), (2, .int v2), (3, .ref o)] := hl
  refine lv_aload_n hx hb dL_set_0 rfl (lv_at hl 3 rfl) ?_
  refine lv_iconst (v := 0) hx hb dL_set_1 (by decide) ?_
  refine lv_aload_n hx hb dL_set_2 rfl (lv_at hl 0 rfl) ?_
  refine lv_iload_n hx hb dL_set_3 rfl (lv_at hl 1 rfl) ?_
  refine lv_iload_n hx hb dL_set_4 rfl (lv_at hl 2 rfl) ?_
  have htab : c.exceptionTable.toList = tableOf [(0, 10, 13, 19), (0, 10, 17, 13)] := vx_table (x := yL_set) B (hts _ List.mem_cons_self)
  refine gvT (As := [.int v1, .int v2]) (rest := [.int 0, .ref o]) ⟨hx, hb, hml, hown, hts⟩ hM (cwV 2 hts gL_set_X4_set rfl rfl rfl (by decide +kernel) ⟨Nat.le_of_ble_eq_true rfl, Nat.le_of_ble_eq_true rfl⟩) (va_recv hK hP (ci := 4) (q0 := 0) rfl (gat0 h0)) hP hK hD hN hX hS hA rfl hl.1 rfl (Nat.le_of_ble_eq_true rfl) dL_set_5 ⟨Nat.le_of_ble_eq_true rfl, Nat.le_of_ble_eq_true rfl⟩ (fun q9 ce H locs hP hD hS hce hcv hcl => ?_)
  refine vx_catch hown [] ⟨0, 10, 13, 19⟩ [⟨0, 10, 17, 13⟩] htab (fun z9 h9 => absurd h9 List.not_mem_nil) (by decide) (by decide) (hts (.classLink RL 19 "java/lang/IndexOutOfBoundsException") (List.mem_of_getElem? (i := 1) rfl)) (va_Nw.use rfl hX.2.2.2.2.2.2.1.2.2.2.2.2) hce hcv hcl ?_
  refine lv_astore (lv' := [(4, .ref q9), (0, .ref Xp), (1, .int v1), (2, .int v2), (3, .ref o)]) hx hb dL_set_13 hl (by decide) rfl (fun ls hl => ?_)
  refine lv_iconst (v := 1) hx hb dL_set_15 (by decide) ?_
  exact gretL hx hb hr hlocks hP hD hS rfl rfl dL_set_16 (by omega) (by omega)
set_option maxHeartbeats 4000000 in
set_option maxRecDepth 100000 in
theorem wt_set_IAE (l : Launch) (E : EE) (cL : ClassId) (T0 : Nat → Nat) (wx : va_W) (Xp o : Nat) (fs : List Value) (f : Nat → Int64) (v1 v2 : Int32) (h0 : wx[0]? = some (Xp, .inr (4, fs))) (hM : GT l yX4_set wsX4_set 6 82 E T0 wx [.ref Xp, .int v1, .int v2] IAE) : GL l yL_set wsL_set E cL T0 (wx ++ [(o, cO cL f)]) [.ref Xp, .int v1, .int v2, .ref o] (wx ++ [(o, cO cL f)]) 2 := by
  intro sz
  refine va_MetW (cc := cL_set) (maxL := 5) (ret := (some .int)) (by decide) rfl ?_
  intro p e s m args below meth c s₁ B hml hv
  obtain ⟨⟨⟨rfl, rfl, hP, hK, hD0, hN⟩, hX⟩, hKL⟩ := hv
  have hx := B.exec
  have hb := B.bytes
  have hr := B.returns
  have hts := atoms_spec (ws := wsL_set) B.pre
  have hown : s.vm.findClass RL = some m.cls := findClass_of_methodNamed B.named
  have hlocks := B.notSynchronized
  have hD := hD0.self (sz := s.heap.size)
  have hA : ∀ q : Nat, s.heap.size ≤ q → va_A (wx ++ [(o, cO cL f)]) s.heap.size q := fun q h => Or.inr h
  have hS : va_S (va_A (wx ++ [(o, cO cL f)]) s.heap.size) s.heap s.heap [] := va_S.rf
  have hl := lv_entry ([.ref Xp, .int v1, .int v2, .ref o]) (n := 5) (Nat.le_of_ble_eq_true rfl)
  rw [lg_entry_eq]
  generalize (lg_sl ([.ref Xp, .int v1, .int v2, .ref o]) ++ List.replicate (5 - (lg_sl ([.ref Xp, .int v1, .int v2, .ref o])).length) Slot.unset).toArray = ls at hl ⊢
  have hl : lv_has ls 5 [(0, .ref Xp), (1, .int v1), (2, .int v2), (3, .ref o)] := hl
  refine lv_aload_n hx hb dL_set_0 rfl (lv_at hl 3 rfl) ?_
  refine lv_iconst (v := 0) hx hb dL_set_1 (by decide) ?_
  refine lv_aload_n hx hb dL_set_2 rfl (lv_at hl 0 rfl) ?_
  refine lv_iload_n hx hb dL_set_3 rfl (lv_at hl 1 rfl) ?_
  refine lv_iload_n hx hb dL_set_4 rfl (lv_at hl 2 rfl) ?_
  have htab : c.exceptionTable.toList = tableOf [(0, 10, 13, 19), (0, 10, 17, 13)] := vx_table (x := yL_set) B (hts _ List.mem_cons_self)
  refine gvT (As := [.int v1, .int v2]) (rest := [.int 0, .ref o]) ⟨hx, hb, hml, hown, hts⟩ hM (cwV 2 hts gL_set_X4_set rfl rfl rfl (by decide +kernel) ⟨Nat.le_of_ble_eq_true rfl, Nat.le_of_ble_eq_true rfl⟩) (va_recv hK hP (ci := 4) (q0 := 0) rfl (gat0 h0)) hP hK hD hN hX hS hA rfl hl.1 rfl (Nat.le_of_ble_eq_true rfl) dL_set_5 ⟨Nat.le_of_ble_eq_true rfl, Nat.le_of_ble_eq_true rfl⟩ (fun q9 ce H locs hP hD hS hce hcv hcl => ?_)
  refine vx_catch hown [⟨0, 10, 13, 19⟩] ⟨0, 10, 17, 13⟩ [] htab (fun z9 h9 => by rw [List.mem_singleton.mp h9]; exact Or.inr ⟨by decide, IOE, hts (.classLink RL 19 "java/lang/IndexOutOfBoundsException") (List.mem_of_getElem? (i := 1) rfl), hX.2.2.2.2.2.2.2.1⟩) (by decide) (by decide) (hts (.classLink RL 13 "java/lang/IllegalArgumentException") (List.mem_of_getElem? (i := 2) rfl)) (va_Nw.use rfl hX.2.2.2.2.2.2.1.2.2.2.1) hce hcv hcl ?_
  refine lv_astore (lv' := [(4, .ref q9), (0, .ref Xp), (1, .int v1), (2, .int v2), (3, .ref o)]) hx hb dL_set_17 hl (by decide) rfl (fun ls hl => ?_)
  refine lv_iconst (v := 2) hx hb dL_set_19 (by decide) ?_
  exact gretL hx hb hr hlocks hP hD hS rfl rfl dL_set_20 (by omega) (by omega)
set_option maxHeartbeats 4000000 in
set_option maxRecDepth 100000 in
theorem wg_setting (l : Launch) (E : EE) (cL : ClassId) (T0 : Nat → Nat) (wx : va_W) (Xp o : Nat) (fs : List Value) (f : Nat → Int64) (v1 : Int32) (wx1 : va_W) (ans : Int32) (h0 : wx[0]? = some (Xp, .inr (4, fs))) (hM : GM l yX4_setting wsX4_setting 1 20 E wx [.ref Xp, .int v1] wx1 (some (.int ans))) : GL l yL_setting wsL_setting E cL T0 (wx ++ [(o, cO cL f)]) [.ref Xp, .int v1, .ref o] (wx1 ++ [(o, cO cL (vp_updL f 0 ans.toInt64))]) 0 := by
  intro sz
  refine va_MetW (cc := cL_setting) (maxL := 4) (ret := (some .int)) (by decide) rfl ?_
  intro p e s m args below meth c s₁ B hml hv
  obtain ⟨⟨⟨rfl, rfl, hP, hK, hD0, hN⟩, hX⟩, hKL⟩ := hv
  have hx := B.exec
  have hb := B.bytes
  have hr := B.returns
  have hts := atoms_spec (ws := wsL_setting) B.pre
  have hown : s.vm.findClass RL = some m.cls := findClass_of_methodNamed B.named
  have hlocks := B.notSynchronized
  have hD := hD0.self (sz := s.heap.size)
  have hA : ∀ q : Nat, s.heap.size ≤ q → va_A (wx ++ [(o, cO cL f)]) s.heap.size q := fun q h => Or.inr h
  have hS : va_S (va_A (wx ++ [(o, cO cL f)]) s.heap.size) s.heap s.heap [] := va_S.rf
  have hl := lv_entry ([.ref Xp, .int v1, .ref o]) (n := 4) (Nat.le_of_ble_eq_true rfl)
  rw [lg_entry_eq]
  generalize (lg_sl ([.ref Xp, .int v1, .ref o]) ++ List.replicate (4 - (lg_sl ([.ref Xp, .int v1, .ref o])).length) Slot.unset).toArray = ls at hl ⊢
  have hl : lv_has ls 4 [(0, .ref Xp), (1, .int v1), (2, .ref o)] := hl
  refine lv_aload_n hx hb dL_setting_0 rfl (lv_at hl 2 rfl) ?_
  refine lv_iconst (v := 0) hx hb dL_setting_1 (by decide) ?_
  refine lv_aload_n hx hb dL_setting_2 rfl (lv_at hl 0 rfl) ?_
  refine lv_iload_n hx hb dL_setting_3 rfl (lv_at hl 1 rfl) ?_
  refine gvMi [] [(o, cO cL f)] (As := [.int v1]) (rest := [.int 0, .ref o]) ⟨hx, hb, hml, hown, hts⟩ hM (cwV 1 hts gL_setting_X4_setting rfl rfl rfl (by decide +kernel) ⟨Nat.le_of_ble_eq_true rfl, Nat.le_of_ble_eq_true rfl⟩) (va_recv hK hP (ci := 4) (q0 := 0) rfl (gat0 h0)) hP hK hD hN hS hA rfl hl.1 rfl (Nat.le_of_ble_eq_true rfl) dL_setting_4 ⟨Nat.le_of_ble_eq_true rfl, Nat.le_of_ble_eq_true rfl⟩ (fun H locs hP hD hS => ?_)
  have hP : va_P E.1 vwCl (wx1 ++ [(o, cO cL f)]) H := hP
  have hD : va_D (va_A (wx ++ [(o, cO cL f)]) s.heap.size) (wx1 ++ [(o, cO cL f)]) := hD
  refine lv_i2l hx hb dL_setting_7 (v := ans.toInt64) rfl ?_
  refine va_last hx hb hKL hP hD hS wx1.length 0 (at_end _ _) rfl (by unfold vp_in; decide) dL_setting_8 (fun H locs hP hD hS => ?_)
  refine lv_goto (tgt := 15) hx hb dL_setting_9 (by decide) ?_
  refine lv_iconst (v := 0) hx hb dL_setting_15 (by decide) ?_
  exact gretL hx hb hr hlocks hP hD hS rfl (by rw [set_end]; rfl) dL_setting_16 (by omega) (by omega)
set_option maxHeartbeats 4000000 in
set_option maxRecDepth 100000 in
theorem wt_setting_IOE (l : Launch) (E : EE) (cL : ClassId) (T0 : Nat → Nat) (wx : va_W) (Xp o : Nat) (fs : List Value) (f : Nat → Int64) (v1 : Int32) (h0 : wx[0]? = some (Xp, .inr (4, fs))) (hM : GT l yX4_setting wsX4_setting 6 82 E T0 wx [.ref Xp, .int v1] IOE) : GL l yL_setting wsL_setting E cL T0 (wx ++ [(o, cO cL f)]) [.ref Xp, .int v1, .ref o] (wx ++ [(o, cO cL f)]) 1 := by
  intro sz
  refine va_MetW (cc := cL_setting) (maxL := 4) (ret := (some .int)) (by decide) rfl ?_
  intro p e s m args below meth c s₁ B hml hv
  obtain ⟨⟨⟨rfl, rfl, hP, hK, hD0, hN⟩, hX⟩, hKL⟩ := hv
  have hx := B.exec
  have hb := B.bytes
  have hr := B.returns
  have hts := atoms_spec (ws := wsL_setting) B.pre
  have hown : s.vm.findClass RL = some m.cls := findClass_of_methodNamed B.named
  have hlocks := B.notSynchronized
  have hD := hD0.self (sz := s.heap.size)
  have hA : ∀ q : Nat, s.heap.size ≤ q → va_A (wx ++ [(o, cO cL f)]) s.heap.size q := fun q h => Or.inr h
  have hS : va_S (va_A (wx ++ [(o, cO cL f)]) s.heap.size) s.heap s.heap [] := va_S.rf
  have hl := lv_entry ([.ref Xp, .int v1, .ref o]) (n := 4) (Nat.le_of_ble_eq_true rfl)
  rw [lg_entry_eq]
  generalize (lg_sl ([.ref Xp, .int v1, .ref o]) ++ List.replicate (4 - (lg_sl ([.ref Xp, .int v1, .ref o])).length) Slot.unset).toArray = ls at hl ⊢
  have hl : lv_has ls 4 [(0, .ref Xp), (1, .int v1), (2, .ref o)] := hl
  refine lv_aload_n hx hb dL_setting_0 rfl (lv_at hl 2 rfl) ?_
  refine lv_iconst (v := 0) hx hb dL_setting_1 (by decide) ?_
  refine lv_aload_n hx hb dL_setting_2 rfl (lv_at hl 0 rfl) ?_
  refine lv_iload_n hx hb dL_setting_3 rfl (lv_at hl 1 rfl) ?_
  have htab : c.exceptionTable.toList = tableOf [(0, 9, 12, 19)] := vx_table (x := yL_setting) B (hts _ List.mem_cons_self)
  refine gvT (As := [.int v1]) (rest := [.int 0, .ref o]) ⟨hx, hb, hml, hown, hts⟩ hM (cwV 1 hts gL_setting_X4_setting rfl rfl rfl (by decide +kernel) ⟨Nat.le_of_ble_eq_true rfl, Nat.le_of_ble_eq_true rfl⟩) (va_recv hK hP (ci := 4) (q0 := 0) rfl (gat0 h0)) hP hK hD hN hX hS hA rfl hl.1 rfl (Nat.le_of_ble_eq_true rfl) dL_setting_4 ⟨Nat.le_of_ble_eq_true rfl, Nat.le_of_ble_eq_true rfl⟩ (fun q9 ce H locs hP hD hS hce hcv hcl => ?_)
  refine vx_catch hown [] ⟨0, 9, 12, 19⟩ [] htab (fun z9 h9 => absurd h9 List.not_mem_nil) (by decide) (by decide) (hts (.classLink RL 19 "java/lang/IndexOutOfBoundsException") (List.mem_of_getElem? (i := 1) rfl)) (va_Nw.use rfl hX.2.2.2.2.2.2.1.2.2.2.2.2) hce hcv hcl ?_
  refine lv_astore_n (lv' := [(3, .ref q9), (0, .ref Xp), (1, .int v1), (2, .ref o)]) hx hb dL_setting_12 rfl hl (by decide) rfl (fun ls hl => ?_)
  refine lv_iconst (v := 1) hx hb dL_setting_13 (by decide) ?_
  exact gretL hx hb hr hlocks hP hD hS rfl rfl dL_setting_14 (by omega) (by omega)
set_option maxHeartbeats 4000000 in
set_option maxRecDepth 100000 in
theorem wg_start (l : Launch) (E : EE) (cL : ClassId) (T0 : Nat → Nat) (wx : va_W) (Xp o : Nat) (fs : List Value) (f : Nat → Int64) (wx1 : va_W) (ans : Int32) (h0 : wx[0]? = some (Xp, .inr (4, fs))) (hM : GM l yX4_start wsX4_start 1 21 E wx [.ref Xp] wx1 (some (.int ans))) : GL l yL_start wsL_start E cL T0 (wx ++ [(o, cO cL f)]) [.ref Xp, .ref o] (wx1 ++ [(o, cO cL (vp_updL f 0 ans.toInt64))]) 0 := by
  intro sz
  refine va_MetW (cc := cL_start) (maxL := 3) (ret := (some .int)) (by decide) rfl ?_
  intro p e s m args below meth c s₁ B hml hv
  obtain ⟨⟨⟨rfl, rfl, hP, hK, hD0, hN⟩, hX⟩, hKL⟩ := hv
  have hx := B.exec
  have hb := B.bytes
  have hr := B.returns
  have hts := atoms_spec (ws := wsL_start) B.pre
  have hown : s.vm.findClass RL = some m.cls := findClass_of_methodNamed B.named
  have hlocks := B.notSynchronized
  have hD := hD0.self (sz := s.heap.size)
  have hA : ∀ q : Nat, s.heap.size ≤ q → va_A (wx ++ [(o, cO cL f)]) s.heap.size q := fun q h => Or.inr h
  have hS : va_S (va_A (wx ++ [(o, cO cL f)]) s.heap.size) s.heap s.heap [] := va_S.rf
  have hl := lv_entry ([.ref Xp, .ref o]) (n := 3) (Nat.le_of_ble_eq_true rfl)
  rw [lg_entry_eq]
  generalize (lg_sl ([.ref Xp, .ref o]) ++ List.replicate (3 - (lg_sl ([.ref Xp, .ref o])).length) Slot.unset).toArray = ls at hl ⊢
  have hl : lv_has ls 3 [(0, .ref Xp), (1, .ref o)] := hl
  refine lv_aload_n hx hb dL_start_0 rfl (lv_at hl 1 rfl) ?_
  refine lv_iconst (v := 0) hx hb dL_start_1 (by decide) ?_
  refine lv_aload_n hx hb dL_start_2 rfl (lv_at hl 0 rfl) ?_
  refine gvMi [] [(o, cO cL f)] (As := []) (rest := [.int 0, .ref o]) ⟨hx, hb, hml, hown, hts⟩ hM (cwV 0 hts gL_start_X4_start rfl rfl rfl (by decide +kernel) ⟨Nat.le_of_ble_eq_true rfl, Nat.le_of_ble_eq_true rfl⟩) (va_recv hK hP (ci := 4) (q0 := 0) rfl (gat0 h0)) hP hK hD hN hS hA rfl hl.1 rfl (Nat.le_of_ble_eq_true rfl) dL_start_3 ⟨Nat.le_of_ble_eq_true rfl, Nat.le_of_ble_eq_true rfl⟩ (fun H locs hP hD hS => ?_)
  have hP : va_P E.1 vwCl (wx1 ++ [(o, cO cL f)]) H := hP
  have hD : va_D (va_A (wx ++ [(o, cO cL f)]) s.heap.size) (wx1 ++ [(o, cO cL f)]) := hD
  refine lv_i2l hx hb dL_start_6 (v := ans.toInt64) rfl ?_
  refine va_last hx hb hKL hP hD hS wx1.length 0 (at_end _ _) rfl (by unfold vp_in; decide) dL_start_7 (fun H locs hP hD hS => ?_)
  refine lv_goto (tgt := 14) hx hb dL_start_8 (by decide) ?_
  refine lv_iconst (v := 0) hx hb dL_start_14 (by decide) ?_
  exact gretL hx hb hr hlocks hP hD hS rfl (by rw [set_end]; rfl) dL_start_15 (by omega) (by omega)
set_option maxHeartbeats 4000000 in
set_option maxRecDepth 100000 in
theorem wt_start_ISE (l : Launch) (E : EE) (cL : ClassId) (T0 : Nat → Nat) (wx : va_W) (Xp o : Nat) (fs : List Value) (f : Nat → Int64) (h0 : wx[0]? = some (Xp, .inr (4, fs))) (hM : GT l yX4_start wsX4_start 6 82 E T0 wx [.ref Xp] ISE) : GL l yL_start wsL_start E cL T0 (wx ++ [(o, cO cL f)]) [.ref Xp, .ref o] (wx ++ [(o, cO cL f)]) 1 := by
  intro sz
  refine va_MetW (cc := cL_start) (maxL := 3) (ret := (some .int)) (by decide) rfl ?_
  intro p e s m args below meth c s₁ B hml hv
  obtain ⟨⟨⟨rfl, rfl, hP, hK, hD0, hN⟩, hX⟩, hKL⟩ := hv
  have hx := B.exec
  have hb := B.bytes
  have hr := B.returns
  have hts := atoms_spec (ws := wsL_start) B.pre
  have hown : s.vm.findClass RL = some m.cls := findClass_of_methodNamed B.named
  have hlocks := B.notSynchronized
  have hD := hD0.self (sz := s.heap.size)
  have hA : ∀ q : Nat, s.heap.size ≤ q → va_A (wx ++ [(o, cO cL f)]) s.heap.size q := fun q h => Or.inr h
  have hS : va_S (va_A (wx ++ [(o, cO cL f)]) s.heap.size) s.heap s.heap [] := va_S.rf
  have hl := lv_entry ([.ref Xp, .ref o]) (n := 3) (Nat.le_of_ble_eq_true rfl)
  rw [lg_entry_eq]
  generalize (lg_sl ([.ref Xp, .ref o]) ++ List.replicate (3 - (lg_sl ([.ref Xp, .ref o])).length) Slot.unset).toArray = ls at hl ⊢
  have hl : lv_has ls 3 [(0, .ref Xp), (1, .ref o)] := hl
  refine lv_aload_n hx hb dL_start_0 rfl (lv_at hl 1 rfl) ?_
  refine lv_iconst (v := 0) hx hb dL_start_1 (by decide) ?_
  refine lv_aload_n hx hb dL_start_2 rfl (lv_at hl 0 rfl) ?_
  have htab : c.exceptionTable.toList = tableOf [(0, 8, 11, 28)] := vx_table (x := yL_start) B (hts _ List.mem_cons_self)
  refine gvT (As := []) (rest := [.int 0, .ref o]) ⟨hx, hb, hml, hown, hts⟩ hM (cwV 0 hts gL_start_X4_start rfl rfl rfl (by decide +kernel) ⟨Nat.le_of_ble_eq_true rfl, Nat.le_of_ble_eq_true rfl⟩) (va_recv hK hP (ci := 4) (q0 := 0) rfl (gat0 h0)) hP hK hD hN hX hS hA rfl hl.1 rfl (Nat.le_of_ble_eq_true rfl) dL_start_3 ⟨Nat.le_of_ble_eq_true rfl, Nat.le_of_ble_eq_true rfl⟩ (fun q9 ce H locs hP hD hS hce hcv hcl => ?_)
  refine vx_catch hown [] ⟨0, 8, 11, 28⟩ [] htab (fun z9 h9 => absurd h9 List.not_mem_nil) (by decide) (by decide) (hts (.classLink RL 28 "java/lang/IllegalStateException") (List.mem_of_getElem? (i := 1) rfl)) (va_Nw.use rfl hX.2.2.2.2.2.2.1.2.2.2.2.1) hce hcv hcl ?_
  refine lv_astore_n (lv' := [(2, .ref q9), (0, .ref Xp), (1, .ref o)]) hx hb dL_start_11 rfl hl (by decide) rfl (fun ls hl => ?_)
  refine lv_iconst (v := 1) hx hb dL_start_12 (by decide) ?_
  exact gretL hx hb hr hlocks hP hD hS rfl rfl dL_start_13 (by omega) (by omega)
set_option maxHeartbeats 4000000 in
set_option maxRecDepth 100000 in
theorem wg_run (l : Launch) (E : EE) (cL : ClassId) (T0 : Nat → Nat) (wx : va_W) (Xp o : Nat) (fs : List Value) (f : Nat → Int64) (v1 : Int32) (wx1 : va_W) (ans : Int32) (h0 : wx[0]? = some (Xp, .inr (4, fs))) (hM : GM l yX4_run wsX4_run 5 114 E wx [.ref Xp, .int v1] wx1 (some (.int ans))) : GL l yL_run wsL_run E cL T0 (wx ++ [(o, cO cL f)]) [.ref Xp, .int v1, .ref o] (wx1 ++ [(o, cO cL (vp_updL f 0 ans.toInt64))]) 0 := by
  intro sz
  refine va_MetW (cc := cL_run) (maxL := 4) (ret := (some .int)) (by decide) rfl ?_
  intro p e s m args below meth c s₁ B hml hv
  obtain ⟨⟨⟨rfl, rfl, hP, hK, hD0, hN⟩, hX⟩, hKL⟩ := hv
  have hx := B.exec
  have hb := B.bytes
  have hr := B.returns
  have hts := atoms_spec (ws := wsL_run) B.pre
  have hown : s.vm.findClass RL = some m.cls := findClass_of_methodNamed B.named
  have hlocks := B.notSynchronized
  have hD := hD0.self (sz := s.heap.size)
  have hA : ∀ q : Nat, s.heap.size ≤ q → va_A (wx ++ [(o, cO cL f)]) s.heap.size q := fun q h => Or.inr h
  have hS : va_S (va_A (wx ++ [(o, cO cL f)]) s.heap.size) s.heap s.heap [] := va_S.rf
  have hl := lv_entry ([.ref Xp, .int v1, .ref o]) (n := 4) (Nat.le_of_ble_eq_true rfl)
  rw [lg_entry_eq]
  generalize (lg_sl ([.ref Xp, .int v1, .ref o]) ++ List.replicate (4 - (lg_sl ([.ref Xp, .int v1, .ref o])).length) Slot.unset).toArray = ls at hl ⊢
  have hl : lv_has ls 4 [(0, .ref Xp), (1, .int v1), (2, .ref o)] := hl
  refine lv_aload_n hx hb dL_run_0 rfl (lv_at hl 2 rfl) ?_
  refine lv_iconst (v := 0) hx hb dL_run_1 (by decide) ?_
  refine lv_aload_n hx hb dL_run_2 rfl (lv_at hl 0 rfl) ?_
  refine lv_iload_n hx hb dL_run_3 rfl (lv_at hl 1 rfl) ?_
  refine gvMi [] [(o, cO cL f)] (As := [.int v1]) (rest := [.int 0, .ref o]) ⟨hx, hb, hml, hown, hts⟩ hM (cwV 1 hts gL_run_X4_run rfl rfl rfl (by decide +kernel) ⟨Nat.le_of_ble_eq_true rfl, Nat.le_of_ble_eq_true rfl⟩) (va_recv hK hP (ci := 4) (q0 := 0) rfl (gat0 h0)) hP hK hD hN hS hA rfl hl.1 rfl (Nat.le_of_ble_eq_true rfl) dL_run_4 ⟨Nat.le_of_ble_eq_true rfl, Nat.le_of_ble_eq_true rfl⟩ (fun H locs hP hD hS => ?_)
  have hP : va_P E.1 vwCl (wx1 ++ [(o, cO cL f)]) H := hP
  have hD : va_D (va_A (wx ++ [(o, cO cL f)]) s.heap.size) (wx1 ++ [(o, cO cL f)]) := hD
  refine lv_i2l hx hb dL_run_7 (v := ans.toInt64) rfl ?_
  refine va_last hx hb hKL hP hD hS wx1.length 0 (at_end _ _) rfl (by unfold vp_in; decide) dL_run_8 (fun H locs hP hD hS => ?_)
  refine lv_goto (tgt := 18) hx hb dL_run_9 (by decide) ?_
  refine lv_iconst (v := 0) hx hb dL_run_18 (by decide) ?_
  exact gretL hx hb hr hlocks hP hD hS rfl (by rw [set_end]; rfl) dL_run_19 (by omega) (by omega)
set_option maxHeartbeats 4000000 in
set_option maxRecDepth 100000 in
theorem wt_run_IAE (l : Launch) (E : EE) (cL : ClassId) (T0 : Nat → Nat) (wx : va_W) (Xp o : Nat) (fs : List Value) (f : Nat → Int64) (v1 : Int32) (h0 : wx[0]? = some (Xp, .inr (4, fs))) (hM : GT l yX4_run wsX4_run 6 82 E T0 wx [.ref Xp, .int v1] IAE) : GL l yL_run wsL_run E cL T0 (wx ++ [(o, cO cL f)]) [.ref Xp, .int v1, .ref o] (wx ++ [(o, cO cL f)]) 1 := by
  intro sz
  refine va_MetW (cc := cL_run) (maxL := 4) (ret := (some .int)) (by decide) rfl ?_
  intro p e s m args below meth c s₁ B hml hv
  obtain ⟨⟨⟨rfl, rfl, hP, hK, hD0, hN⟩, hX⟩, hKL⟩ := hv
  have hx := B.exec
  have hb := B.bytes
  have hr := B.returns
  have hts := atoms_spec (ws := wsL_run) B.pre
  have hown : s.vm.findClass RL = some m.cls := findClass_of_methodNamed B.named
  have hlocks := B.notSynchronized
  have hD := hD0.self (sz := s.heap.size)
  have hA : ∀ q : Nat, s.heap.size ≤ q → va_A (wx ++ [(o, cO cL f)]) s.heap.size q := fun q h => Or.inr h
  have hS : va_S (va_A (wx ++ [(o, cO cL f)]) s.heap.size) s.heap s.heap [] := va_S.rf
  have hl := lv_entry ([.ref Xp, .int v1, .ref o]) (n := 4) (Nat.le_of_ble_eq_true rfl)
  rw [lg_entry_eq]
  generalize (lg_sl ([.ref Xp, .int v1, .ref o]) ++ List.replicate (4 - (lg_sl ([.ref Xp, .int v1, .ref o])).length) Slot.unset).toArray = ls at hl ⊢
  have hl : lv_has ls 4 [(0, .ref Xp), (1, .int v1), (2, .ref o)] := hl
  refine lv_aload_n hx hb dL_run_0 rfl (lv_at hl 2 rfl) ?_
  refine lv_iconst (v := 0) hx hb dL_run_1 (by decide) ?_
  refine lv_aload_n hx hb dL_run_2 rfl (lv_at hl 0 rfl) ?_
  refine lv_iload_n hx hb dL_run_3 rfl (lv_at hl 1 rfl) ?_
  have htab : c.exceptionTable.toList = tableOf [(0, 9, 12, 13), (0, 9, 15, 28)] := vx_table (x := yL_run) B (hts _ List.mem_cons_self)
  refine gvT (As := [.int v1]) (rest := [.int 0, .ref o]) ⟨hx, hb, hml, hown, hts⟩ hM (cwV 1 hts gL_run_X4_run rfl rfl rfl (by decide +kernel) ⟨Nat.le_of_ble_eq_true rfl, Nat.le_of_ble_eq_true rfl⟩) (va_recv hK hP (ci := 4) (q0 := 0) rfl (gat0 h0)) hP hK hD hN hX hS hA rfl hl.1 rfl (Nat.le_of_ble_eq_true rfl) dL_run_4 ⟨Nat.le_of_ble_eq_true rfl, Nat.le_of_ble_eq_true rfl⟩ (fun q9 ce H locs hP hD hS hce hcv hcl => ?_)
  refine vx_catch hown [] ⟨0, 9, 12, 13⟩ [⟨0, 9, 15, 28⟩] htab (fun z9 h9 => absurd h9 List.not_mem_nil) (by decide) (by decide) (hts (.classLink RL 13 "java/lang/IllegalArgumentException") (List.mem_of_getElem? (i := 1) rfl)) (va_Nw.use rfl hX.2.2.2.2.2.2.1.2.2.2.1) hce hcv hcl ?_
  refine lv_astore_n (lv' := [(3, .ref q9), (0, .ref Xp), (1, .int v1), (2, .ref o)]) hx hb dL_run_12 rfl hl (by decide) rfl (fun ls hl => ?_)
  refine lv_iconst (v := 1) hx hb dL_run_13 (by decide) ?_
  exact gretL hx hb hr hlocks hP hD hS rfl rfl dL_run_14 (by omega) (by omega)
set_option maxHeartbeats 4000000 in
set_option maxRecDepth 100000 in
theorem wt_run_ISE (l : Launch) (E : EE) (cL : ClassId) (T0 : Nat → Nat) (wx : va_W) (Xp o : Nat) (fs : List Value) (f : Nat → Int64) (v1 : Int32) (h0 : wx[0]? = some (Xp, .inr (4, fs))) (hM : GT l yX4_run wsX4_run 6 82 E T0 wx [.ref Xp, .int v1] ISE) : GL l yL_run wsL_run E cL T0 (wx ++ [(o, cO cL f)]) [.ref Xp, .int v1, .ref o] (wx ++ [(o, cO cL f)]) 2 := by
  intro sz
  refine va_MetW (cc := cL_run) (maxL := 4) (ret := (some .int)) (by decide) rfl ?_
  intro p e s m args below meth c s₁ B hml hv
  obtain ⟨⟨⟨rfl, rfl, hP, hK, hD0, hN⟩, hX⟩, hKL⟩ := hv
  have hx := B.exec
  have hb := B.bytes
  have hr := B.returns
  have hts := atoms_spec (ws := wsL_run) B.pre
  have hown : s.vm.findClass RL = some m.cls := findClass_of_methodNamed B.named
  have hlocks := B.notSynchronized
  have hD := hD0.self (sz := s.heap.size)
  have hA : ∀ q : Nat, s.heap.size ≤ q → va_A (wx ++ [(o, cO cL f)]) s.heap.size q := fun q h => Or.inr h
  have hS : va_S (va_A (wx ++ [(o, cO cL f)]) s.heap.size) s.heap s.heap [] := va_S.rf
  have hl := lv_entry ([.ref Xp, .int v1, .ref o]) (n := 4) (Nat.le_of_ble_eq_true rfl)
  rw [lg_entry_eq]
  generalize (lg_sl ([.ref Xp, .int v1, .ref o]) ++ List.replicate (4 - (lg_sl ([.ref Xp, .int v1, .ref o])).length) Slot.unset).toArray = ls at hl ⊢
  have hl : lv_has ls 4 [(0, .ref Xp), (1, .int v1), (2, .ref o)] := hl
  refine lv_aload_n hx hb dL_run_0 rfl (lv_at hl 2 rfl) ?_
  refine lv_iconst (v := 0) hx hb dL_run_1 (by decide) ?_
  refine lv_aload_n hx hb dL_run_2 rfl (lv_at hl 0 rfl) ?_
  refine lv_iload_n hx hb dL_run_3 rfl (lv_at hl 1 rfl) ?_
  have htab : c.exceptionTable.toList = tableOf [(0, 9, 12, 13), (0, 9, 15, 28)] := vx_table (x := yL_run) B (hts _ List.mem_cons_self)
  refine gvT (As := [.int v1]) (rest := [.int 0, .ref o]) ⟨hx, hb, hml, hown, hts⟩ hM (cwV 1 hts gL_run_X4_run rfl rfl rfl (by decide +kernel) ⟨Nat.le_of_ble_eq_true rfl, Nat.le_of_ble_eq_true rfl⟩) (va_recv hK hP (ci := 4) (q0 := 0) rfl (gat0 h0)) hP hK hD hN hX hS hA rfl hl.1 rfl (Nat.le_of_ble_eq_true rfl) dL_run_4 ⟨Nat.le_of_ble_eq_true rfl, Nat.le_of_ble_eq_true rfl⟩ (fun q9 ce H locs hP hD hS hce hcv hcl => ?_)
  refine vx_catch hown [⟨0, 9, 12, 13⟩] ⟨0, 9, 15, 28⟩ [] htab (fun z9 h9 => by rw [List.mem_singleton.mp h9]; exact Or.inr ⟨by decide, IAE, hts (.classLink RL 13 "java/lang/IllegalArgumentException") (List.mem_of_getElem? (i := 1) rfl), hX.2.2.2.2.2.2.2.2⟩) (by decide) (by decide) (hts (.classLink RL 28 "java/lang/IllegalStateException") (List.mem_of_getElem? (i := 2) rfl)) (va_Nw.use rfl hX.2.2.2.2.2.2.1.2.2.2.2.1) hce hcv hcl ?_
  refine lv_astore_n (lv' := [(3, .ref q9), (0, .ref Xp), (1, .int v1), (2, .ref o)]) hx hb dL_run_15 rfl hl (by decide) rfl (fun ls hl => ?_)
  refine lv_iconst (v := 2) hx hb dL_run_16 (by decide) ?_
  exact gretL hx hb hr hlocks hP hD hS rfl rfl dL_run_17 (by omega) (by omega)
set_option maxHeartbeats 4000000 in
set_option maxRecDepth 100000 in
theorem wg_append (l : Launch) (E : EE) (cL : ClassId) (T0 : Nat → Nat) (wx : va_W) (Xp o : Nat) (fs : List Value) (f : Nat → Int64) (v1 : Int32) (wx1 : va_W) (ans : Int32) (h0 : wx[0]? = some (Xp, .inr (4, fs))) (hM : GM l yX4_append wsX4_append 1 21 E wx [.ref Xp, .int v1] wx1 (some (.int ans))) : GL l yL_append wsL_append E cL T0 (wx ++ [(o, cO cL f)]) [.ref Xp, .int v1, .ref o] (wx1 ++ [(o, cO cL (vp_updL f 0 ans.toInt64))]) 0 := by
  intro sz
  refine va_MetW (cc := cL_append) (maxL := 4) (ret := (some .int)) (by decide) rfl ?_
  intro p e s m args below meth c s₁ B hml hv
  obtain ⟨⟨⟨rfl, rfl, hP, hK, hD0, hN⟩, hX⟩, hKL⟩ := hv
  have hx := B.exec
  have hb := B.bytes
  have hr := B.returns
  have hts := atoms_spec (ws := wsL_append) B.pre
  have hown : s.vm.findClass RL = some m.cls := findClass_of_methodNamed B.named
  have hlocks := B.notSynchronized
  have hD := hD0.self (sz := s.heap.size)
  have hA : ∀ q : Nat, s.heap.size ≤ q → va_A (wx ++ [(o, cO cL f)]) s.heap.size q := fun q h => Or.inr h
  have hS : va_S (va_A (wx ++ [(o, cO cL f)]) s.heap.size) s.heap s.heap [] := va_S.rf
  have hl := lv_entry ([.ref Xp, .int v1, .ref o]) (n := 4) (Nat.le_of_ble_eq_true rfl)
  rw [lg_entry_eq]
  generalize (lg_sl ([.ref Xp, .int v1, .ref o]) ++ List.replicate (4 - (lg_sl ([.ref Xp, .int v1, .ref o])).length) Slot.unset).toArray = ls at hl ⊢
  have hl : lv_has ls 4 [(0, .ref Xp), (1, .int v1), (2, .ref o)] := hl
  refine lv_aload_n hx hb dL_append_0 rfl (lv_at hl 2 rfl) ?_
  refine lv_iconst (v := 0) hx hb dL_append_1 (by decide) ?_
  refine lv_aload_n hx hb dL_append_2 rfl (lv_at hl 0 rfl) ?_
  refine lv_iload_n hx hb dL_append_3 rfl (lv_at hl 1 rfl) ?_
  refine gvMi [] [(o, cO cL f)] (As := [.int v1]) (rest := [.int 0, .ref o]) ⟨hx, hb, hml, hown, hts⟩ hM (cwV 1 hts gL_append_X4_append rfl rfl rfl (by decide +kernel) ⟨Nat.le_of_ble_eq_true rfl, Nat.le_of_ble_eq_true rfl⟩) (va_recv hK hP (ci := 4) (q0 := 0) rfl (gat0 h0)) hP hK hD hN hS hA rfl hl.1 rfl (Nat.le_of_ble_eq_true rfl) dL_append_4 ⟨Nat.le_of_ble_eq_true rfl, Nat.le_of_ble_eq_true rfl⟩ (fun H locs hP hD hS => ?_)
  have hP : va_P E.1 vwCl (wx1 ++ [(o, cO cL f)]) H := hP
  have hD : va_D (va_A (wx ++ [(o, cO cL f)]) s.heap.size) (wx1 ++ [(o, cO cL f)]) := hD
  refine lv_i2l hx hb dL_append_7 (v := ans.toInt64) rfl ?_
  refine va_last hx hb hKL hP hD hS wx1.length 0 (at_end _ _) rfl (by unfold vp_in; decide) dL_append_8 (fun H locs hP hD hS => ?_)
  refine lv_goto (tgt := 18) hx hb dL_append_9 (by decide) ?_
  refine lv_iconst (v := 0) hx hb dL_append_18 (by decide) ?_
  exact gretL hx hb hr hlocks hP hD hS rfl (by rw [set_end]; rfl) dL_append_19 (by omega) (by omega)
set_option maxHeartbeats 4000000 in
set_option maxRecDepth 100000 in
theorem wt_append_IAE (l : Launch) (E : EE) (cL : ClassId) (T0 : Nat → Nat) (wx : va_W) (Xp o : Nat) (fs : List Value) (f : Nat → Int64) (v1 : Int32) (h0 : wx[0]? = some (Xp, .inr (4, fs))) (hM : GT l yX4_append wsX4_append 6 82 E T0 wx [.ref Xp, .int v1] IAE) : GL l yL_append wsL_append E cL T0 (wx ++ [(o, cO cL f)]) [.ref Xp, .int v1, .ref o] (wx ++ [(o, cO cL f)]) 1 := by
  intro sz
  refine va_MetW (cc := cL_append) (maxL := 4) (ret := (some .int)) (by decide) rfl ?_
  intro p e s m args below meth c s₁ B hml hv
  obtain ⟨⟨⟨rfl, rfl, hP, hK, hD0, hN⟩, hX⟩, hKL⟩ := hv
  have hx := B.exec
  have hb := B.bytes
  have hr := B.returns
  have hts := atoms_spec (ws := wsL_append) B.pre
  have hown : s.vm.findClass RL = some m.cls := findClass_of_methodNamed B.named
  have hlocks := B.notSynchronized
  have hD := hD0.self (sz := s.heap.size)
  have hA : ∀ q : Nat, s.heap.size ≤ q → va_A (wx ++ [(o, cO cL f)]) s.heap.size q := fun q h => Or.inr h
  have hS : va_S (va_A (wx ++ [(o, cO cL f)]) s.heap.size) s.heap s.heap [] := va_S.rf
  have hl := lv_entry ([.ref Xp, .int v1, .ref o]) (n := 4) (Nat.le_of_ble_eq_true rfl)
  rw [lg_entry_eq]
  generalize (lg_sl ([.ref Xp, .int v1, .ref o]) ++ List.replicate (4 - (lg_sl ([.ref Xp, .int v1, .ref o])).length) Slot.unset).toArray = ls at hl ⊢
  have hl : lv_has ls 4 [(0, .ref Xp), (1, .int v1), (2, .ref o)] := hl
  refine lv_aload_n hx hb dL_append_0 rfl (lv_at hl 2 rfl) ?_
  refine lv_iconst (v := 0) hx hb dL_append_1 (by decide) ?_
  refine lv_aload_n hx hb dL_append_2 rfl (lv_at hl 0 rfl) ?_
  refine lv_iload_n hx hb dL_append_3 rfl (lv_at hl 1 rfl) ?_
  have htab : c.exceptionTable.toList = tableOf [(0, 9, 12, 13), (0, 9, 15, 28)] := vx_table (x := yL_append) B (hts _ List.mem_cons_self)
  refine gvT (As := [.int v1]) (rest := [.int 0, .ref o]) ⟨hx, hb, hml, hown, hts⟩ hM (cwV 1 hts gL_append_X4_append rfl rfl rfl (by decide +kernel) ⟨Nat.le_of_ble_eq_true rfl, Nat.le_of_ble_eq_true rfl⟩) (va_recv hK hP (ci := 4) (q0 := 0) rfl (gat0 h0)) hP hK hD hN hX hS hA rfl hl.1 rfl (Nat.le_of_ble_eq_true rfl) dL_append_4 ⟨Nat.le_of_ble_eq_true rfl, Nat.le_of_ble_eq_true rfl⟩ (fun q9 ce H locs hP hD hS hce hcv hcl => ?_)
  refine vx_catch hown [] ⟨0, 9, 12, 13⟩ [⟨0, 9, 15, 28⟩] htab (fun z9 h9 => absurd h9 List.not_mem_nil) (by decide) (by decide) (hts (.classLink RL 13 "java/lang/IllegalArgumentException") (List.mem_of_getElem? (i := 1) rfl)) (va_Nw.use rfl hX.2.2.2.2.2.2.1.2.2.2.1) hce hcv hcl ?_
  refine lv_astore_n (lv' := [(3, .ref q9), (0, .ref Xp), (1, .int v1), (2, .ref o)]) hx hb dL_append_12 rfl hl (by decide) rfl (fun ls hl => ?_)
  refine lv_iconst (v := 1) hx hb dL_append_13 (by decide) ?_
  exact gretL hx hb hr hlocks hP hD hS rfl rfl dL_append_14 (by omega) (by omega)
set_option maxHeartbeats 4000000 in
set_option maxRecDepth 100000 in
theorem wt_append_ISE (l : Launch) (E : EE) (cL : ClassId) (T0 : Nat → Nat) (wx : va_W) (Xp o : Nat) (fs : List Value) (f : Nat → Int64) (v1 : Int32) (h0 : wx[0]? = some (Xp, .inr (4, fs))) (hM : GT l yX4_append wsX4_append 6 82 E T0 wx [.ref Xp, .int v1] ISE) : GL l yL_append wsL_append E cL T0 (wx ++ [(o, cO cL f)]) [.ref Xp, .int v1, .ref o] (wx ++ [(o, cO cL f)]) 2 := by
  intro sz
  refine va_MetW (cc := cL_append) (maxL := 4) (ret := (some .int)) (by decide) rfl ?_
  intro p e s m args below meth c s₁ B hml hv
  obtain ⟨⟨⟨rfl, rfl, hP, hK, hD0, hN⟩, hX⟩, hKL⟩ := hv
  have hx := B.exec
  have hb := B.bytes
  have hr := B.returns
  have hts := atoms_spec (ws := wsL_append) B.pre
  have hown : s.vm.findClass RL = some m.cls := findClass_of_methodNamed B.named
  have hlocks := B.notSynchronized
  have hD := hD0.self (sz := s.heap.size)
  have hA : ∀ q : Nat, s.heap.size ≤ q → va_A (wx ++ [(o, cO cL f)]) s.heap.size q := fun q h => Or.inr h
  have hS : va_S (va_A (wx ++ [(o, cO cL f)]) s.heap.size) s.heap s.heap [] := va_S.rf
  have hl := lv_entry ([.ref Xp, .int v1, .ref o]) (n := 4) (Nat.le_of_ble_eq_true rfl)
  rw [lg_entry_eq]
  generalize (lg_sl ([.ref Xp, .int v1, .ref o]) ++ List.replicate (4 - (lg_sl ([.ref Xp, .int v1, .ref o])).length) Slot.unset).toArray = ls at hl ⊢
  have hl : lv_has ls 4 [(0, .ref Xp), (1, .int v1), (2, .ref o)] := hl
  refine lv_aload_n hx hb dL_append_0 rfl (lv_at hl 2 rfl) ?_
  refine lv_iconst (v := 0) hx hb dL_append_1 (by decide) ?_
  refine lv_aload_n hx hb dL_append_2 rfl (lv_at hl 0 rfl) ?_
  refine lv_iload_n hx hb dL_append_3 rfl (lv_at hl 1 rfl) ?_
  have htab : c.exceptionTable.toList = tableOf [(0, 9, 12, 13), (0, 9, 15, 28)] := vx_table (x := yL_append) B (hts _ List.mem_cons_self)
  refine gvT (As := [.int v1]) (rest := [.int 0, .ref o]) ⟨hx, hb, hml, hown, hts⟩ hM (cwV 1 hts gL_append_X4_append rfl rfl rfl (by decide +kernel) ⟨Nat.le_of_ble_eq_true rfl, Nat.le_of_ble_eq_true rfl⟩) (va_recv hK hP (ci := 4) (q0 := 0) rfl (gat0 h0)) hP hK hD hN hX hS hA rfl hl.1 rfl (Nat.le_of_ble_eq_true rfl) dL_append_4 ⟨Nat.le_of_ble_eq_true rfl, Nat.le_of_ble_eq_true rfl⟩ (fun q9 ce H locs hP hD hS hce hcv hcl => ?_)
  refine vx_catch hown [⟨0, 9, 12, 13⟩] ⟨0, 9, 15, 28⟩ [] htab (fun z9 h9 => by rw [List.mem_singleton.mp h9]; exact Or.inr ⟨by decide, IAE, hts (.classLink RL 13 "java/lang/IllegalArgumentException") (List.mem_of_getElem? (i := 1) rfl), hX.2.2.2.2.2.2.2.2⟩) (by decide) (by decide) (hts (.classLink RL 28 "java/lang/IllegalStateException") (List.mem_of_getElem? (i := 2) rfl)) (va_Nw.use rfl hX.2.2.2.2.2.2.1.2.2.2.2.1) hce hcv hcl ?_
  refine lv_astore_n (lv' := [(3, .ref q9), (0, .ref Xp), (1, .int v1), (2, .ref o)]) hx hb dL_append_15 rfl hl (by decide) rfl (fun ls hl => ?_)
  refine lv_iconst (v := 2) hx hb dL_append_16 (by decide) ?_
  exact gretL hx hb hr hlocks hP hD hS rfl rfl dL_append_17 (by omega) (by omega)
set_option maxHeartbeats 4000000 in
set_option maxRecDepth 100000 in
theorem wg_play (l : Launch) (E : EE) (cL : ClassId) (T0 : Nat → Nat) (wx : va_W) (Xp o : Nat) (fs : List Value) (f : Nat → Int64) (wx1 : va_W) (ans : Int32) (h0 : wx[0]? = some (Xp, .inr (4, fs))) (hM : GX l yX4_play wsX4_play 6 137 E T0 wx [.ref Xp] wx1 (some (.int ans))) : GL l yL_play wsL_play E cL T0 (wx ++ [(o, cO cL f)]) [.ref Xp, .ref o] (wx1 ++ [(o, cO cL (vp_updL f 0 ans.toInt64))]) 0 := by
  intro sz
  refine va_MetW (cc := cL_play) (maxL := 3) (ret := (some .int)) (by decide) rfl ?_
  intro p e s m args below meth c s₁ B hml hv
  obtain ⟨⟨⟨rfl, rfl, hP, hK, hD0, hN⟩, hX⟩, hKL⟩ := hv
  have hx := B.exec
  have hb := B.bytes
  have hr := B.returns
  have hts := atoms_spec (ws := wsL_play) B.pre
  have hown : s.vm.findClass RL = some m.cls := findClass_of_methodNamed B.named
  have hlocks := B.notSynchronized
  have hD := hD0.self (sz := s.heap.size)
  have hA : ∀ q : Nat, s.heap.size ≤ q → va_A (wx ++ [(o, cO cL f)]) s.heap.size q := fun q h => Or.inr h
  have hS : va_S (va_A (wx ++ [(o, cO cL f)]) s.heap.size) s.heap s.heap [] := va_S.rf
  have hl := lv_entry ([.ref Xp, .ref o]) (n := 3) (Nat.le_of_ble_eq_true rfl)
  rw [lg_entry_eq]
  generalize (lg_sl ([.ref Xp, .ref o]) ++ List.replicate (3 - (lg_sl ([.ref Xp, .ref o])).length) Slot.unset).toArray = ls at hl ⊢
  have hl : lv_has ls 3 [(0, .ref Xp), (1, .ref o)] := hl
  refine lv_aload_n hx hb dL_play_0 rfl (lv_at hl 1 rfl) ?_
  refine lv_iconst (v := 0) hx hb dL_play_1 (by decide) ?_
  refine lv_aload_n hx hb dL_play_2 rfl (lv_at hl 0 rfl) ?_
  refine xvMi [] [(o, cO cL f)] (As := []) (rest := [.int 0, .ref o]) ⟨hx, hb, hml, hown, hts⟩ hM (cwV 0 hts gL_play_X4_play rfl rfl rfl (by decide +kernel) ⟨Nat.le_of_ble_eq_true rfl, Nat.le_of_ble_eq_true rfl⟩) (va_recv hK hP (ci := 4) (q0 := 0) rfl (gat0 h0)) hP hK hD hN hX hS hA rfl hl.1 rfl (Nat.le_of_ble_eq_true rfl) dL_play_3 ⟨Nat.le_of_ble_eq_true rfl, Nat.le_of_ble_eq_true rfl⟩ (fun H locs hP hD hS => ?_)
  have hP : va_P E.1 vwCl (wx1 ++ [(o, cO cL f)]) H := hP
  have hD : va_D (va_A (wx ++ [(o, cO cL f)]) s.heap.size) (wx1 ++ [(o, cO cL f)]) := hD
  refine lv_i2l hx hb dL_play_6 (v := ans.toInt64) rfl ?_
  refine va_last hx hb hKL hP hD hS wx1.length 0 (at_end _ _) rfl (by unfold vp_in; decide) dL_play_7 (fun H locs hP hD hS => ?_)
  refine lv_goto (tgt := 14) hx hb dL_play_8 (by decide) ?_
  refine lv_iconst (v := 0) hx hb dL_play_14 (by decide) ?_
  exact gretL hx hb hr hlocks hP hD hS rfl (by rw [set_end]; rfl) dL_play_15 (by omega) (by omega)
set_option maxHeartbeats 4000000 in
set_option maxRecDepth 100000 in
theorem wt_play_IAE (l : Launch) (E : EE) (cL : ClassId) (T0 : Nat → Nat) (wx : va_W) (Xp o : Nat) (fs : List Value) (f : Nat → Int64) (h0 : wx[0]? = some (Xp, .inr (4, fs))) (hM : GT l yX4_play wsX4_play 6 82 E T0 wx [.ref Xp] IAE) : GL l yL_play wsL_play E cL T0 (wx ++ [(o, cO cL f)]) [.ref Xp, .ref o] (wx ++ [(o, cO cL f)]) 1 := by
  intro sz
  refine va_MetW (cc := cL_play) (maxL := 3) (ret := (some .int)) (by decide) rfl ?_
  intro p e s m args below meth c s₁ B hml hv
  obtain ⟨⟨⟨rfl, rfl, hP, hK, hD0, hN⟩, hX⟩, hKL⟩ := hv
  have hx := B.exec
  have hb := B.bytes
  have hr := B.returns
  have hts := atoms_spec (ws := wsL_play) B.pre
  have hown : s.vm.findClass RL = some m.cls := findClass_of_methodNamed B.named
  have hlocks := B.notSynchronized
  have hD := hD0.self (sz := s.heap.size)
  have hA : ∀ q : Nat, s.heap.size ≤ q → va_A (wx ++ [(o, cO cL f)]) s.heap.size q := fun q h => Or.inr h
  have hS : va_S (va_A (wx ++ [(o, cO cL f)]) s.heap.size) s.heap s.heap [] := va_S.rf
  have hl := lv_entry ([.ref Xp, .ref o]) (n := 3) (Nat.le_of_ble_eq_true rfl)
  rw [lg_entry_eq]
  generalize (lg_sl ([.ref Xp, .ref o]) ++ List.replicate (3 - (lg_sl ([.ref Xp, .ref o])).length) Slot.unset).toArray = ls at hl ⊢
  have hl : lv_has ls 3 [(0, .ref Xp), (1, .ref o)] := hl
  refine lv_aload_n hx hb dL_play_0 rfl (lv_at hl 1 rfl) ?_
  refine lv_iconst (v := 0) hx hb dL_play_1 (by decide) ?_
  refine lv_aload_n hx hb dL_play_2 rfl (lv_at hl 0 rfl) ?_
  have htab : c.exceptionTable.toList = tableOf [(0, 8, 11, 13)] := vx_table (x := yL_play) B (hts _ List.mem_cons_self)
  refine gvT (As := []) (rest := [.int 0, .ref o]) ⟨hx, hb, hml, hown, hts⟩ hM (cwV 0 hts gL_play_X4_play rfl rfl rfl (by decide +kernel) ⟨Nat.le_of_ble_eq_true rfl, Nat.le_of_ble_eq_true rfl⟩) (va_recv hK hP (ci := 4) (q0 := 0) rfl (gat0 h0)) hP hK hD hN hX hS hA rfl hl.1 rfl (Nat.le_of_ble_eq_true rfl) dL_play_3 ⟨Nat.le_of_ble_eq_true rfl, Nat.le_of_ble_eq_true rfl⟩ (fun q9 ce H locs hP hD hS hce hcv hcl => ?_)
  refine vx_catch hown [] ⟨0, 8, 11, 13⟩ [] htab (fun z9 h9 => absurd h9 List.not_mem_nil) (by decide) (by decide) (hts (.classLink RL 13 "java/lang/IllegalArgumentException") (List.mem_of_getElem? (i := 1) rfl)) (va_Nw.use rfl hX.2.2.2.2.2.2.1.2.2.2.1) hce hcv hcl ?_
  refine lv_astore_n (lv' := [(2, .ref q9), (0, .ref Xp), (1, .ref o)]) hx hb dL_play_11 rfl hl (by decide) rfl (fun ls hl => ?_)
  refine lv_iconst (v := 1) hx hb dL_play_12 (by decide) ?_
  exact gretL hx hb hr hlocks hP hD hS rfl rfl dL_play_13 (by omega) (by omega)
set_option maxHeartbeats 4000000 in
set_option maxRecDepth 100000 in
theorem wg_count (l : Launch) (E : EE) (cL : ClassId) (T0 : Nat → Nat) (wx : va_W) (Xp o : Nat) (fs : List Value) (f : Nat → Int64) (v1 : Int32) (wx1 : va_W) (ans : Int32) (h0 : wx[0]? = some (Xp, .inr (4, fs))) (hM : GM l yX4_count wsX4_count 3 64 E wx [.ref Xp, .int v1] wx1 (some (.int ans))) : GL l yL_count wsL_count E cL T0 (wx ++ [(o, cO cL f)]) [.ref Xp, .int v1, .ref o] (wx1 ++ [(o, cO cL (vp_updL f 0 ans.toInt64))]) 0 := by
  intro sz
  refine va_MetW (cc := cL_count) (maxL := 4) (ret := (some .int)) (by decide) rfl ?_
  intro p e s m args below meth c s₁ B hml hv
  obtain ⟨⟨⟨rfl, rfl, hP, hK, hD0, hN⟩, hX⟩, hKL⟩ := hv
  have hx := B.exec
  have hb := B.bytes
  have hr := B.returns
  have hts := atoms_spec (ws := wsL_count) B.pre
  have hown : s.vm.findClass RL = some m.cls := findClass_of_methodNamed B.named
  have hlocks := B.notSynchronized
  have hD := hD0.self (sz := s.heap.size)
  have hA : ∀ q : Nat, s.heap.size ≤ q → va_A (wx ++ [(o, cO cL f)]) s.heap.size q := fun q h => Or.inr h
  have hS : va_S (va_A (wx ++ [(o, cO cL f)]) s.heap.size) s.heap s.heap [] := va_S.rf
  have hl := lv_entry ([.ref Xp, .int v1, .ref o]) (n := 4) (Nat.le_of_ble_eq_true rfl)
  rw [lg_entry_eq]
  generalize (lg_sl ([.ref Xp, .int v1, .ref o]) ++ List.replicate (4 - (lg_sl ([.ref Xp, .int v1, .ref o])).length) Slot.unset).toArray = ls at hl ⊢
  have hl : lv_has ls 4 [(0, .ref Xp), (1, .int v1), (2, .ref o)] := hl
  refine lv_aload_n hx hb dL_count_0 rfl (lv_at hl 2 rfl) ?_
  refine lv_iconst (v := 0) hx hb dL_count_1 (by decide) ?_
  refine lv_aload_n hx hb dL_count_2 rfl (lv_at hl 0 rfl) ?_
  refine lv_iload_n hx hb dL_count_3 rfl (lv_at hl 1 rfl) ?_
  refine gvMi [] [(o, cO cL f)] (As := [.int v1]) (rest := [.int 0, .ref o]) ⟨hx, hb, hml, hown, hts⟩ hM (cwV 1 hts gL_count_X4_count rfl rfl rfl (by decide +kernel) ⟨Nat.le_of_ble_eq_true rfl, Nat.le_of_ble_eq_true rfl⟩) (va_recv hK hP (ci := 4) (q0 := 0) rfl (gat0 h0)) hP hK hD hN hS hA rfl hl.1 rfl (Nat.le_of_ble_eq_true rfl) dL_count_4 ⟨Nat.le_of_ble_eq_true rfl, Nat.le_of_ble_eq_true rfl⟩ (fun H locs hP hD hS => ?_)
  have hP : va_P E.1 vwCl (wx1 ++ [(o, cO cL f)]) H := hP
  have hD : va_D (va_A (wx ++ [(o, cO cL f)]) s.heap.size) (wx1 ++ [(o, cO cL f)]) := hD
  refine lv_i2l hx hb dL_count_7 (v := ans.toInt64) rfl ?_
  refine va_last hx hb hKL hP hD hS wx1.length 0 (at_end _ _) rfl (by unfold vp_in; decide) dL_count_8 (fun H locs hP hD hS => ?_)
  refine lv_goto (tgt := 15) hx hb dL_count_9 (by decide) ?_
  refine lv_iconst (v := 0) hx hb dL_count_15 (by decide) ?_
  exact gretL hx hb hr hlocks hP hD hS rfl (by rw [set_end]; rfl) dL_count_16 (by omega) (by omega)
set_option maxHeartbeats 4000000 in
set_option maxRecDepth 100000 in
theorem wt_count_IAE (l : Launch) (E : EE) (cL : ClassId) (T0 : Nat → Nat) (wx : va_W) (Xp o : Nat) (fs : List Value) (f : Nat → Int64) (v1 : Int32) (h0 : wx[0]? = some (Xp, .inr (4, fs))) (hM : GT l yX4_count wsX4_count 6 82 E T0 wx [.ref Xp, .int v1] IAE) : GL l yL_count wsL_count E cL T0 (wx ++ [(o, cO cL f)]) [.ref Xp, .int v1, .ref o] (wx ++ [(o, cO cL f)]) 1 := by
  intro sz
  refine va_MetW (cc := cL_count) (maxL := 4) (ret := (some .int)) (by decide) rfl ?_
  intro p e s m args below meth c s₁ B hml hv
  obtain ⟨⟨⟨rfl, rfl, hP, hK, hD0, hN⟩, hX⟩, hKL⟩ := hv
  have hx := B.exec
  have hb := B.bytes
  have hr := B.returns
  have hts := atoms_spec (ws := wsL_count) B.pre
  have hown : s.vm.findClass RL = some m.cls := findClass_of_methodNamed B.named
  have hlocks := B.notSynchronized
  have hD := hD0.self (sz := s.heap.size)
  have hA : ∀ q : Nat, s.heap.size ≤ q → va_A (wx ++ [(o, cO cL f)]) s.heap.size q := fun q h => Or.inr h
  have hS : va_S (va_A (wx ++ [(o, cO cL f)]) s.heap.size) s.heap s.heap [] := va_S.rf
  have hl := lv_entry ([.ref Xp, .int v1, .ref o]) (n := 4) (Nat.le_of_ble_eq_true rfl)
  rw [lg_entry_eq]
  generalize (lg_sl ([.ref Xp, .int v1, .ref o]) ++ List.replicate (4 - (lg_sl ([.ref Xp, .int v1, .ref o])).length) Slot.unset).toArray = ls at hl ⊢
  have hl : lv_has ls 4 [(0, .ref Xp), (1, .int v1), (2, .ref o)] := hl
  refine lv_aload_n hx hb dL_count_0 rfl (lv_at hl 2 rfl) ?_
  refine lv_iconst (v := 0) hx hb dL_count_1 (by decide) ?_
  refine lv_aload_n hx hb dL_count_2 rfl (lv_at hl 0 rfl) ?_
  refine lv_iload_n hx hb dL_count_3 rfl (lv_at hl 1 rfl) ?_
  have htab : c.exceptionTable.toList = tableOf [(0, 9, 12, 13)] := vx_table (x := yL_count) B (hts _ List.mem_cons_self)
  refine gvT (As := [.int v1]) (rest := [.int 0, .ref o]) ⟨hx, hb, hml, hown, hts⟩ hM (cwV 1 hts gL_count_X4_count rfl rfl rfl (by decide +kernel) ⟨Nat.le_of_ble_eq_true rfl, Nat.le_of_ble_eq_true rfl⟩) (va_recv hK hP (ci := 4) (q0 := 0) rfl (gat0 h0)) hP hK hD hN hX hS hA rfl hl.1 rfl (Nat.le_of_ble_eq_true rfl) dL_count_4 ⟨Nat.le_of_ble_eq_true rfl, Nat.le_of_ble_eq_true rfl⟩ (fun q9 ce H locs hP hD hS hce hcv hcl => ?_)
  refine vx_catch hown [] ⟨0, 9, 12, 13⟩ [] htab (fun z9 h9 => absurd h9 List.not_mem_nil) (by decide) (by decide) (hts (.classLink RL 13 "java/lang/IllegalArgumentException") (List.mem_of_getElem? (i := 1) rfl)) (va_Nw.use rfl hX.2.2.2.2.2.2.1.2.2.2.1) hce hcv hcl ?_
  refine lv_astore_n (lv' := [(3, .ref q9), (0, .ref Xp), (1, .int v1), (2, .ref o)]) hx hb dL_count_12 rfl hl (by decide) rfl (fun ls hl => ?_)
  refine lv_iconst (v := 1) hx hb dL_count_13 (by decide) ?_
  exact gretL hx hb hr hlocks hP hD hS rfl rfl dL_count_14 (by omega) (by omega)
set_option maxHeartbeats 4000000 in
set_option maxRecDepth 100000 in
theorem wg_phase (l : Launch) (E : EE) (cL : ClassId) (T0 : Nat → Nat) (wx : va_W) (Xp o : Nat) (fs : List Value) (f : Nat → Int64) (v1 v2 : Int32) (wx1 : va_W) (ans : Int32) (h0 : wx[0]? = some (Xp, .inr (4, fs))) (hM : GM l yX4_phase wsX4_phase 1 21 E wx [.ref Xp, .int v1, .int v2] wx1 (some (.int ans))) : GL l yL_phase wsL_phase E cL T0 (wx ++ [(o, cO cL f)]) [.ref Xp, .int v1, .int v2, .ref o] (wx1 ++ [(o, cO cL (vp_updL f 0 ans.toInt64))]) 0 := by
  intro sz
  refine va_MetW (cc := cL_phase) (maxL := 5) (ret := (some .int)) (by decide) rfl ?_
  intro p e s m args below meth c s₁ B hml hv
  obtain ⟨⟨⟨rfl, rfl, hP, hK, hD0, hN⟩, hX⟩, hKL⟩ := hv
  have hx := B.exec
  have hb := B.bytes
  have hr := B.returns
  have hts := atoms_spec (ws := wsL_phase) B.pre
  have hown : s.vm.findClass RL = some m.cls := findClass_of_methodNamed B.named
  have hlocks := B.notSynchronized
  have hD := hD0.self (sz := s.heap.size)
  have hA : ∀ q : Nat, s.heap.size ≤ q → va_A (wx ++ [(o, cO cL f)]) s.heap.size q := fun q h => Or.inr h
  have hS : va_S (va_A (wx ++ [(o, cO cL f)]) s.heap.size) s.heap s.heap [] := va_S.rf
  have hl := lv_entry ([.ref Xp, .int v1, .int v2, .ref o]) (n := 5) (Nat.le_of_ble_eq_true rfl)
  rw [lg_entry_eq]
  generalize (lg_sl ([.ref Xp, .int v1, .int v2, .ref o]) ++ List.replicate (5 - (lg_sl ([.ref Xp, .int v1, .int v2, .ref o])).length) Slot.unset).toArray = ls at hl ⊢
  have hl : lv_has ls 5 [(0, .ref Xp), (1, .int v1), (2, .int v2), (3, .ref o)] := hl
  refine lv_aload_n hx hb dL_phase_0 rfl (lv_at hl 3 rfl) ?_
  refine lv_iconst (v := 0) hx hb dL_phase_1 (by decide) ?_
  refine lv_aload_n hx hb dL_phase_2 rfl (lv_at hl 0 rfl) ?_
  refine lv_iload_n hx hb dL_phase_3 rfl (lv_at hl 1 rfl) ?_
  refine lv_iload_n hx hb dL_phase_4 rfl (lv_at hl 2 rfl) ?_
  refine gvMi [] [(o, cO cL f)] (As := [.int v1, .int v2]) (rest := [.int 0, .ref o]) ⟨hx, hb, hml, hown, hts⟩ hM (cwV 2 hts gL_phase_X4_phase rfl rfl rfl (by decide +kernel) ⟨Nat.le_of_ble_eq_true rfl, Nat.le_of_ble_eq_true rfl⟩) (va_recv hK hP (ci := 4) (q0 := 0) rfl (gat0 h0)) hP hK hD hN hS hA rfl hl.1 rfl (Nat.le_of_ble_eq_true rfl) dL_phase_5 ⟨Nat.le_of_ble_eq_true rfl, Nat.le_of_ble_eq_true rfl⟩ (fun H locs hP hD hS => ?_)
  have hP : va_P E.1 vwCl (wx1 ++ [(o, cO cL f)]) H := hP
  have hD : va_D (va_A (wx ++ [(o, cO cL f)]) s.heap.size) (wx1 ++ [(o, cO cL f)]) := hD
  refine lv_i2l hx hb dL_phase_8 (v := ans.toInt64) rfl ?_
  refine va_last hx hb hKL hP hD hS wx1.length 0 (at_end _ _) rfl (by unfold vp_in; decide) dL_phase_9 (fun H locs hP hD hS => ?_)
  refine lv_goto (tgt := 21) hx hb dL_phase_10 (by decide) ?_
  refine lv_iconst (v := 0) hx hb dL_phase_21 (by decide) ?_
  exact gretL hx hb hr hlocks hP hD hS rfl (by rw [set_end]; rfl) dL_phase_22 (by omega) (by omega)
set_option maxHeartbeats 4000000 in
set_option maxRecDepth 100000 in
theorem wt_phase_IOE (l : Launch) (E : EE) (cL : ClassId) (T0 : Nat → Nat) (wx : va_W) (Xp o : Nat) (fs : List Value) (f : Nat → Int64) (v1 v2 : Int32) (h0 : wx[0]? = some (Xp, .inr (4, fs))) (hM : GT l yX4_phase wsX4_phase 6 82 E T0 wx [.ref Xp, .int v1, .int v2] IOE) : GL l yL_phase wsL_phase E cL T0 (wx ++ [(o, cO cL f)]) [.ref Xp, .int v1, .int v2, .ref o] (wx ++ [(o, cO cL f)]) 1 := by
  intro sz
  refine va_MetW (cc := cL_phase) (maxL := 5) (ret := (some .int)) (by decide) rfl ?_
  intro p e s m args below meth c s₁ B hml hv
  obtain ⟨⟨⟨rfl, rfl, hP, hK, hD0, hN⟩, hX⟩, hKL⟩ := hv
  have hx := B.exec
  have hb := B.bytes
  have hr := B.returns
  have hts := atoms_spec (ws := wsL_phase) B.pre
  have hown : s.vm.findClass RL = some m.cls := findClass_of_methodNamed B.named
  have hlocks := B.notSynchronized
  have hD := hD0.self (sz := s.heap.size)
  have hA : ∀ q : Nat, s.heap.size ≤ q → va_A (wx ++ [(o, cO cL f)]) s.heap.size q := fun q h => Or.inr h
  have hS : va_S (va_A (wx ++ [(o, cO cL f)]) s.heap.size) s.heap s.heap [] := va_S.rf
  have hl := lv_entry ([.ref Xp, .int v1, .int v2, .ref o]) (n := 5) (Nat.le_of_ble_eq_true rfl)
  rw [lg_entry_eq]
  generalize (lg_sl ([.ref Xp, .int v1, .int v2, .ref o]) ++ List.replicate (5 - (lg_sl ([.ref Xp, .int v1, .int v2, .ref o])).length) Slot.unset).toArray = ls at hl ⊢
  have hl : lv_has ls 5 [(0, .ref Xp), (1, .int v1), (2, .int v2), (3, .ref o)] := hl
  refine lv_aload_n hx hb dL_phase_0 rfl (lv_at hl 3 rfl) ?_
  refine lv_iconst (v := 0) hx hb dL_phase_1 (by decide) ?_
  refine lv_aload_n hx hb dL_phase_2 rfl (lv_at hl 0 rfl) ?_
  refine lv_iload_n hx hb dL_phase_3 rfl (lv_at hl 1 rfl) ?_
  refine lv_iload_n hx hb dL_phase_4 rfl (lv_at hl 2 rfl) ?_
  have htab : c.exceptionTable.toList = tableOf [(0, 10, 13, 19), (0, 10, 17, 13)] := vx_table (x := yL_phase) B (hts _ List.mem_cons_self)
  refine gvT (As := [.int v1, .int v2]) (rest := [.int 0, .ref o]) ⟨hx, hb, hml, hown, hts⟩ hM (cwV 2 hts gL_phase_X4_phase rfl rfl rfl (by decide +kernel) ⟨Nat.le_of_ble_eq_true rfl, Nat.le_of_ble_eq_true rfl⟩) (va_recv hK hP (ci := 4) (q0 := 0) rfl (gat0 h0)) hP hK hD hN hX hS hA rfl hl.1 rfl (Nat.le_of_ble_eq_true rfl) dL_phase_5 ⟨Nat.le_of_ble_eq_true rfl, Nat.le_of_ble_eq_true rfl⟩ (fun q9 ce H locs hP hD hS hce hcv hcl => ?_)
  refine vx_catch hown [] ⟨0, 10, 13, 19⟩ [⟨0, 10, 17, 13⟩] htab (fun z9 h9 => absurd h9 List.not_mem_nil) (by decide) (by decide) (hts (.classLink RL 19 "java/lang/IndexOutOfBoundsException") (List.mem_of_getElem? (i := 1) rfl)) (va_Nw.use rfl hX.2.2.2.2.2.2.1.2.2.2.2.2) hce hcv hcl ?_
  refine lv_astore (lv' := [(4, .ref q9), (0, .ref Xp), (1, .int v1), (2, .int v2), (3, .ref o)]) hx hb dL_phase_13 hl (by decide) rfl (fun ls hl => ?_)
  refine lv_iconst (v := 1) hx hb dL_phase_15 (by decide) ?_
  exact gretL hx hb hr hlocks hP hD hS rfl rfl dL_phase_16 (by omega) (by omega)
set_option maxHeartbeats 4000000 in
set_option maxRecDepth 100000 in
theorem wt_phase_IAE (l : Launch) (E : EE) (cL : ClassId) (T0 : Nat → Nat) (wx : va_W) (Xp o : Nat) (fs : List Value) (f : Nat → Int64) (v1 v2 : Int32) (h0 : wx[0]? = some (Xp, .inr (4, fs))) (hM : GT l yX4_phase wsX4_phase 6 82 E T0 wx [.ref Xp, .int v1, .int v2] IAE) : GL l yL_phase wsL_phase E cL T0 (wx ++ [(o, cO cL f)]) [.ref Xp, .int v1, .int v2, .ref o] (wx ++ [(o, cO cL f)]) 2 := by
  intro sz
  refine va_MetW (cc := cL_phase) (maxL := 5) (ret := (some .int)) (by decide) rfl ?_
  intro p e s m args below meth c s₁ B hml hv
  obtain ⟨⟨⟨rfl, rfl, hP, hK, hD0, hN⟩, hX⟩, hKL⟩ := hv
  have hx := B.exec
  have hb := B.bytes
  have hr := B.returns
  have hts := atoms_spec (ws := wsL_phase) B.pre
  have hown : s.vm.findClass RL = some m.cls := findClass_of_methodNamed B.named
  have hlocks := B.notSynchronized
  have hD := hD0.self (sz := s.heap.size)
  have hA : ∀ q : Nat, s.heap.size ≤ q → va_A (wx ++ [(o, cO cL f)]) s.heap.size q := fun q h => Or.inr h
  have hS : va_S (va_A (wx ++ [(o, cO cL f)]) s.heap.size) s.heap s.heap [] := va_S.rf
  have hl := lv_entry ([.ref Xp, .int v1, .int v2, .ref o]) (n := 5) (Nat.le_of_ble_eq_true rfl)
  rw [lg_entry_eq]
  generalize (lg_sl ([.ref Xp, .int v1, .int v2, .ref o]) ++ List.replicate (5 - (lg_sl ([.ref Xp, .int v1, .int v2, .ref o])).length) Slot.unset).toArray = ls at hl ⊢
  have hl : lv_has ls 5 [(0, .ref Xp), (1, .int v1), (2, .int v2), (3, .ref o)] := hl
  refine lv_aload_n hx hb dL_phase_0 rfl (lv_at hl 3 rfl) ?_
  refine lv_iconst (v := 0) hx hb dL_phase_1 (by decide) ?_
  refine lv_aload_n hx hb dL_phase_2 rfl (lv_at hl 0 rfl) ?_
  refine lv_iload_n hx hb dL_phase_3 rfl (lv_at hl 1 rfl) ?_
  refine lv_iload_n hx hb dL_phase_4 rfl (lv_at hl 2 rfl) ?_
  have htab : c.exceptionTable.toList = tableOf [(0, 10, 13, 19), (0, 10, 17, 13)] := vx_table (x := yL_phase) B (hts _ List.mem_cons_self)
  refine gvT (As := [.int v1, .int v2]) (rest := [.int 0, .ref o]) ⟨hx, hb, hml, hown, hts⟩ hM (cwV 2 hts gL_phase_X4_phase rfl rfl rfl (by decide +kernel) ⟨Nat.le_of_ble_eq_true rfl, Nat.le_of_ble_eq_true rfl⟩) (va_recv hK hP (ci := 4) (q0 := 0) rfl (gat0 h0)) hP hK hD hN hX hS hA rfl hl.1 rfl (Nat.le_of_ble_eq_true rfl) dL_phase_5 ⟨Nat.le_of_ble_eq_true rfl, Nat.le_of_ble_eq_true rfl⟩ (fun q9 ce H locs hP hD hS hce hcv hcl => ?_)
  refine vx_catch hown [⟨0, 10, 13, 19⟩] ⟨0, 10, 17, 13⟩ [] htab (fun z9 h9 => by rw [List.mem_singleton.mp h9]; exact Or.inr ⟨by decide, IOE, hts (.classLink RL 19 "java/lang/IndexOutOfBoundsException") (List.mem_of_getElem? (i := 1) rfl), hX.2.2.2.2.2.2.2.1⟩) (by decide) (by decide) (hts (.classLink RL 13 "java/lang/IllegalArgumentException") (List.mem_of_getElem? (i := 2) rfl)) (va_Nw.use rfl hX.2.2.2.2.2.2.1.2.2.2.1) hce hcv hcl ?_
  refine lv_astore (lv' := [(4, .ref q9), (0, .ref Xp), (1, .int v1), (2, .int v2), (3, .ref o)]) hx hb dL_phase_17 hl (by decide) rfl (fun ls hl => ?_)
  refine lv_iconst (v := 2) hx hb dL_phase_19 (by decide) ?_
  exact gretL hx hb hr hlocks hP hD hS rfl rfl dL_phase_20 (by omega) (by omega)
set_option maxHeartbeats 4000000 in
set_option maxRecDepth 100000 in
theorem wg_record (l : Launch) (E : EE) (cL : ClassId) (T0 : Nat → Nat) (wx : va_W) (Xp o : Nat) (fs : List Value) (f : Nat → Int64) (v1 v2 : Int32) (wx1 : va_W) (ans : Int32) (h0 : wx[0]? = some (Xp, .inr (4, fs))) (hM : GM l yX4_record wsX4_record 1 24 E wx [.ref Xp, .int v1, .int v2] wx1 (some (.int ans))) : GL l yL_record wsL_record E cL T0 (wx ++ [(o, cO cL f)]) [.ref Xp, .int v1, .int v2, .ref o] (wx1 ++ [(o, cO cL (vp_updL f 0 ans.toInt64))]) 0 := by
  intro sz
  refine va_MetW (cc := cL_record) (maxL := 5) (ret := (some .int)) (by decide) rfl ?_
  intro p e s m args below meth c s₁ B hml hv
  obtain ⟨⟨⟨rfl, rfl, hP, hK, hD0, hN⟩, hX⟩, hKL⟩ := hv
  have hx := B.exec
  have hb := B.bytes
  have hr := B.returns
  have hts := atoms_spec (ws := wsL_record) B.pre
  have hown : s.vm.findClass RL = some m.cls := findClass_of_methodNamed B.named
  have hlocks := B.notSynchronized
  have hD := hD0.self (sz := s.heap.size)
  have hA : ∀ q : Nat, s.heap.size ≤ q → va_A (wx ++ [(o, cO cL f)]) s.heap.size q := fun q h => Or.inr h
  have hS : va_S (va_A (wx ++ [(o, cO cL f)]) s.heap.size) s.heap s.heap [] := va_S.rf
  have hl := lv_entry ([.ref Xp, .int v1, .int v2, .ref o]) (n := 5) (Nat.le_of_ble_eq_true rfl)
  rw [lg_entry_eq]
  generalize (lg_sl ([.ref Xp, .int v1, .int v2, .ref o]) ++ List.replicate (5 - (lg_sl ([.ref Xp, .int v1, .int v2, .ref o])).length) Slot.unset).toArray = ls at hl ⊢
  have hl : lv_has ls 5 [(0, .ref Xp), (1, .int v1), (2, .int v2), (3, .ref o)] := hl
  refine lv_aload_n hx hb dL_record_0 rfl (lv_at hl 3 rfl) ?_
  refine lv_iconst (v := 0) hx hb dL_record_1 (by decide) ?_
  refine lv_aload_n hx hb dL_record_2 rfl (lv_at hl 0 rfl) ?_
  refine lv_iload_n hx hb dL_record_3 rfl (lv_at hl 1 rfl) ?_
  refine lv_iload_n hx hb dL_record_4 rfl (lv_at hl 2 rfl) ?_
  refine gvMi [] [(o, cO cL f)] (As := [.int v1, .int v2]) (rest := [.int 0, .ref o]) ⟨hx, hb, hml, hown, hts⟩ hM (cwV 2 hts gL_record_X4_record rfl rfl rfl (by decide +kernel) ⟨Nat.le_of_ble_eq_true rfl, Nat.le_of_ble_eq_true rfl⟩) (va_recv hK hP (ci := 4) (q0 := 0) rfl (gat0 h0)) hP hK hD hN hS hA rfl hl.1 rfl (Nat.le_of_ble_eq_true rfl) dL_record_5 ⟨Nat.le_of_ble_eq_true rfl, Nat.le_of_ble_eq_true rfl⟩ (fun H locs hP hD hS => ?_)
  have hP : va_P E.1 vwCl (wx1 ++ [(o, cO cL f)]) H := hP
  have hD : va_D (va_A (wx ++ [(o, cO cL f)]) s.heap.size) (wx1 ++ [(o, cO cL f)]) := hD
  refine lv_i2l hx hb dL_record_8 (v := ans.toInt64) rfl ?_
  refine va_last hx hb hKL hP hD hS wx1.length 0 (at_end _ _) rfl (by unfold vp_in; decide) dL_record_9 (fun H locs hP hD hS => ?_)
  refine lv_goto (tgt := 21) hx hb dL_record_10 (by decide) ?_
  refine lv_iconst (v := 0) hx hb dL_record_21 (by decide) ?_
  exact gretL hx hb hr hlocks hP hD hS rfl (by rw [set_end]; rfl) dL_record_22 (by omega) (by omega)
set_option maxHeartbeats 4000000 in
set_option maxRecDepth 100000 in
theorem wt_record_IOE (l : Launch) (E : EE) (cL : ClassId) (T0 : Nat → Nat) (wx : va_W) (Xp o : Nat) (fs : List Value) (f : Nat → Int64) (v1 v2 : Int32) (h0 : wx[0]? = some (Xp, .inr (4, fs))) (hM : GT l yX4_record wsX4_record 6 82 E T0 wx [.ref Xp, .int v1, .int v2] IOE) : GL l yL_record wsL_record E cL T0 (wx ++ [(o, cO cL f)]) [.ref Xp, .int v1, .int v2, .ref o] (wx ++ [(o, cO cL f)]) 1 := by
  intro sz
  refine va_MetW (cc := cL_record) (maxL := 5) (ret := (some .int)) (by decide) rfl ?_
  intro p e s m args below meth c s₁ B hml hv
  obtain ⟨⟨⟨rfl, rfl, hP, hK, hD0, hN⟩, hX⟩, hKL⟩ := hv
  have hx := B.exec
  have hb := B.bytes
  have hr := B.returns
  have hts := atoms_spec (ws := wsL_record) B.pre
  have hown : s.vm.findClass RL = some m.cls := findClass_of_methodNamed B.named
  have hlocks := B.notSynchronized
  have hD := hD0.self (sz := s.heap.size)
  have hA : ∀ q : Nat, s.heap.size ≤ q → va_A (wx ++ [(o, cO cL f)]) s.heap.size q := fun q h => Or.inr h
  have hS : va_S (va_A (wx ++ [(o, cO cL f)]) s.heap.size) s.heap s.heap [] := va_S.rf
  have hl := lv_entry ([.ref Xp, .int v1, .int v2, .ref o]) (n := 5) (Nat.le_of_ble_eq_true rfl)
  rw [lg_entry_eq]
  generalize (lg_sl ([.ref Xp, .int v1, .int v2, .ref o]) ++ List.replicate (5 - (lg_sl ([.ref Xp, .int v1, .int v2, .ref o])).length) Slot.unset).toArray = ls at hl ⊢
  have hl : lv_has ls 5 [(0, .ref Xp), (1, .int v1), (2, .int v2), (3, .ref o)] := hl
  refine lv_aload_n hx hb dL_record_0 rfl (lv_at hl 3 rfl) ?_
  refine lv_iconst (v := 0) hx hb dL_record_1 (by decide) ?_
  refine lv_aload_n hx hb dL_record_2 rfl (lv_at hl 0 rfl) ?_
  refine lv_iload_n hx hb dL_record_3 rfl (lv_at hl 1 rfl) ?_
  refine lv_iload_n hx hb dL_record_4 rfl (lv_at hl 2 rfl) ?_
  have htab : c.exceptionTable.toList = tableOf [(0, 10, 13, 19), (0, 10, 17, 13)] := vx_table (x := yL_record) B (hts _ List.mem_cons_self)
  refine gvT (As := [.int v1, .int v2]) (rest := [.int 0, .ref o]) ⟨hx, hb, hml, hown, hts⟩ hM (cwV 2 hts gL_record_X4_record rfl rfl rfl (by decide +kernel) ⟨Nat.le_of_ble_eq_true rfl, Nat.le_of_ble_eq_true rfl⟩) (va_recv hK hP (ci := 4) (q0 := 0) rfl (gat0 h0)) hP hK hD hN hX hS hA rfl hl.1 rfl (Nat.le_of_ble_eq_true rfl) dL_record_5 ⟨Nat.le_of_ble_eq_true rfl, Nat.le_of_ble_eq_true rfl⟩ (fun q9 ce H locs hP hD hS hce hcv hcl => ?_)
  refine vx_catch hown [] ⟨0, 10, 13, 19⟩ [⟨0, 10, 17, 13⟩] htab (fun z9 h9 => absurd h9 List.not_mem_nil) (by decide) (by decide) (hts (.classLink RL 19 "java/lang/IndexOutOfBoundsException") (List.mem_of_getElem? (i := 1) rfl)) (va_Nw.use rfl hX.2.2.2.2.2.2.1.2.2.2.2.2) hce hcv hcl ?_
  refine lv_astore (lv' := [(4, .ref q9), (0, .ref Xp), (1, .int v1), (2, .int v2), (3, .ref o)]) hx hb dL_record_13 hl (by decide) rfl (fun ls hl => ?_)
  refine lv_iconst (v := 1) hx hb dL_record_15 (by decide) ?_
  exact gretL hx hb hr hlocks hP hD hS rfl rfl dL_record_16 (by omega) (by omega)
set_option maxHeartbeats 4000000 in
set_option maxRecDepth 100000 in
theorem wt_record_IAE (l : Launch) (E : EE) (cL : ClassId) (T0 : Nat → Nat) (wx : va_W) (Xp o : Nat) (fs : List Value) (f : Nat → Int64) (v1 v2 : Int32) (h0 : wx[0]? = some (Xp, .inr (4, fs))) (hM : GT l yX4_record wsX4_record 6 82 E T0 wx [.ref Xp, .int v1, .int v2] IAE) : GL l yL_record wsL_record E cL T0 (wx ++ [(o, cO cL f)]) [.ref Xp, .int v1, .int v2, .ref o] (wx ++ [(o, cO cL f)]) 2 := by
  intro sz
  refine va_MetW (cc := cL_record) (maxL := 5) (ret := (some .int)) (by decide) rfl ?_
  intro p e s m args below meth c s₁ B hml hv
  obtain ⟨⟨⟨rfl, rfl, hP, hK, hD0, hN⟩, hX⟩, hKL⟩ := hv
  have hx := B.exec
  have hb := B.bytes
  have hr := B.returns
  have hts := atoms_spec (ws := wsL_record) B.pre
  have hown : s.vm.findClass RL = some m.cls := findClass_of_methodNamed B.named
  have hlocks := B.notSynchronized
  have hD := hD0.self (sz := s.heap.size)
  have hA : ∀ q : Nat, s.heap.size ≤ q → va_A (wx ++ [(o, cO cL f)]) s.heap.size q := fun q h => Or.inr h
  have hS : va_S (va_A (wx ++ [(o, cO cL f)]) s.heap.size) s.heap s.heap [] := va_S.rf
  have hl := lv_entry ([.ref Xp, .int v1, .int v2, .ref o]) (n := 5) (Nat.le_of_ble_eq_true rfl)
  rw [lg_entry_eq]
  generalize (lg_sl ([.ref Xp, .int v1, .int v2, .ref o]) ++ List.replicate (5 - (lg_sl ([.ref Xp, .int v1, .int v2, .ref o])).length) Slot.unset).toArray = ls at hl ⊢
  have hl : lv_has ls 5 [(0, .ref Xp), (1, .int v1), (2, .int v2), (3, .ref o)] := hl
  refine lv_aload_n hx hb dL_record_0 rfl (lv_at hl 3 rfl) ?_
  refine lv_iconst (v := 0) hx hb dL_record_1 (by decide) ?_
  refine lv_aload_n hx hb dL_record_2 rfl (lv_at hl 0 rfl) ?_
  refine lv_iload_n hx hb dL_record_3 rfl (lv_at hl 1 rfl) ?_
  refine lv_iload_n hx hb dL_record_4 rfl (lv_at hl 2 rfl) ?_
  have htab : c.exceptionTable.toList = tableOf [(0, 10, 13, 19), (0, 10, 17, 13)] := vx_table (x := yL_record) B (hts _ List.mem_cons_self)
  refine gvT (As := [.int v1, .int v2]) (rest := [.int 0, .ref o]) ⟨hx, hb, hml, hown, hts⟩ hM (cwV 2 hts gL_record_X4_record rfl rfl rfl (by decide +kernel) ⟨Nat.le_of_ble_eq_true rfl, Nat.le_of_ble_eq_true rfl⟩) (va_recv hK hP (ci := 4) (q0 := 0) rfl (gat0 h0)) hP hK hD hN hX hS hA rfl hl.1 rfl (Nat.le_of_ble_eq_true rfl) dL_record_5 ⟨Nat.le_of_ble_eq_true rfl, Nat.le_of_ble_eq_true rfl⟩ (fun q9 ce H locs hP hD hS hce hcv hcl => ?_)
  refine vx_catch hown [⟨0, 10, 13, 19⟩] ⟨0, 10, 17, 13⟩ [] htab (fun z9 h9 => by rw [List.mem_singleton.mp h9]; exact Or.inr ⟨by decide, IOE, hts (.classLink RL 19 "java/lang/IndexOutOfBoundsException") (List.mem_of_getElem? (i := 1) rfl), hX.2.2.2.2.2.2.2.1⟩) (by decide) (by decide) (hts (.classLink RL 13 "java/lang/IllegalArgumentException") (List.mem_of_getElem? (i := 2) rfl)) (va_Nw.use rfl hX.2.2.2.2.2.2.1.2.2.2.1) hce hcv hcl ?_
  refine lv_astore (lv' := [(4, .ref q9), (0, .ref Xp), (1, .int v1), (2, .int v2), (3, .ref o)]) hx hb dL_record_17 hl (by decide) rfl (fun ls hl => ?_)
  refine lv_iconst (v := 2) hx hb dL_record_19 (by decide) ?_
  exact gretL hx hb hr hlocks hP hD hS rfl rfl dL_record_20 (by omega) (by omega)
set_option maxHeartbeats 4000000 in
set_option maxRecDepth 100000 in
theorem wg_ifLoaded (l : Launch) (E : EE) (cL : ClassId) (T0 : Nat → Nat) (wx : va_W) (Xp o : Nat) (fs : List Value) (f : Nat → Int64) (v1 v2 v3 : Int32) (wx1 : va_W) (ans : Int32) (h0 : wx[0]? = some (Xp, .inr (4, fs))) (hM : GX l yX4_ifLoaded wsX4_ifLoaded 4 91 E T0 wx [.ref Xp, .int v1, .int v2, .int v3] wx1 (some (.int ans))) : GL l yL_ifLoaded wsL_ifLoaded E cL T0 (wx ++ [(o, cO cL f)]) [.ref Xp, .int v1, .int v2, .int v3, .ref o] (wx1 ++ [(o, cO cL (vp_updL f 0 ans.toInt64))]) 0 := by
  intro sz
  refine va_MetW (cc := cL_ifLoaded) (maxL := 6) (ret := (some .int)) (by decide) rfl ?_
  intro p e s m args below meth c s₁ B hml hv
  obtain ⟨⟨⟨rfl, rfl, hP, hK, hD0, hN⟩, hX⟩, hKL⟩ := hv
  have hx := B.exec
  have hb := B.bytes
  have hr := B.returns
  have hts := atoms_spec (ws := wsL_ifLoaded) B.pre
  have hown : s.vm.findClass RL = some m.cls := findClass_of_methodNamed B.named
  have hlocks := B.notSynchronized
  have hD := hD0.self (sz := s.heap.size)
  have hA : ∀ q : Nat, s.heap.size ≤ q → va_A (wx ++ [(o, cO cL f)]) s.heap.size q := fun q h => Or.inr h
  have hS : va_S (va_A (wx ++ [(o, cO cL f)]) s.heap.size) s.heap s.heap [] := va_S.rf
  have hl := lv_entry ([.ref Xp, .int v1, .int v2, .int v3, .ref o]) (n := 6) (Nat.le_of_ble_eq_true rfl)
  rw [lg_entry_eq]
  generalize (lg_sl ([.ref Xp, .int v1, .int v2, .int v3, .ref o]) ++ List.replicate (6 - (lg_sl ([.ref Xp, .int v1, .int v2, .int v3, .ref o])).length) Slot.unset).toArray = ls at hl ⊢
  have hl : lv_has ls 6 [(0, .ref Xp), (1, .int v1), (2, .int v2), (3, .int v3), (4, .ref o)] := hl
  refine lv_aload hx hb dL_ifLoaded_0 (lv_at hl 4 rfl) ?_
  refine lv_iconst (v := 0) hx hb dL_ifLoaded_2 (by decide) ?_
  refine lv_aload_n hx hb dL_ifLoaded_3 rfl (lv_at hl 0 rfl) ?_
  refine lv_iload_n hx hb dL_ifLoaded_4 rfl (lv_at hl 1 rfl) ?_
  refine lv_iload_n hx hb dL_ifLoaded_5 rfl (lv_at hl 2 rfl) ?_
  refine lv_iload_n hx hb dL_ifLoaded_6 rfl (lv_at hl 3 rfl) ?_
  refine xvMi [] [(o, cO cL f)] (As := [.int v1, .int v2, .int v3]) (rest := [.int 0, .ref o]) ⟨hx, hb, hml, hown, hts⟩ hM (cwV 3 hts gL_ifLoaded_X4_ifLoaded rfl rfl rfl (by decide +kernel) ⟨Nat.le_of_ble_eq_true rfl, Nat.le_of_ble_eq_true rfl⟩) (va_recv hK hP (ci := 4) (q0 := 0) rfl (gat0 h0)) hP hK hD hN hX hS hA rfl hl.1 rfl (Nat.le_of_ble_eq_true rfl) dL_ifLoaded_7 ⟨Nat.le_of_ble_eq_true rfl, Nat.le_of_ble_eq_true rfl⟩ (fun H locs hP hD hS => ?_)
  have hP : va_P E.1 vwCl (wx1 ++ [(o, cO cL f)]) H := hP
  have hD : va_D (va_A (wx ++ [(o, cO cL f)]) s.heap.size) (wx1 ++ [(o, cO cL f)]) := hD
  refine lv_i2l hx hb dL_ifLoaded_10 (v := ans.toInt64) rfl ?_
  refine va_last hx hb hKL hP hD hS wx1.length 0 (at_end _ _) rfl (by unfold vp_in; decide) dL_ifLoaded_11 (fun H locs hP hD hS => ?_)
  refine lv_goto (tgt := 19) hx hb dL_ifLoaded_12 (by decide) ?_
  refine lv_iconst (v := 0) hx hb dL_ifLoaded_19 (by decide) ?_
  exact gretL hx hb hr hlocks hP hD hS rfl (by rw [set_end]; rfl) dL_ifLoaded_20 (by omega) (by omega)
set_option maxHeartbeats 4000000 in
set_option maxRecDepth 100000 in
theorem wt_ifLoaded_IAE (l : Launch) (E : EE) (cL : ClassId) (T0 : Nat → Nat) (wx : va_W) (Xp o : Nat) (fs : List Value) (f : Nat → Int64) (v1 v2 v3 : Int32) (h0 : wx[0]? = some (Xp, .inr (4, fs))) (hM : GT l yX4_ifLoaded wsX4_ifLoaded 6 82 E T0 wx [.ref Xp, .int v1, .int v2, .int v3] IAE) : GL l yL_ifLoaded wsL_ifLoaded E cL T0 (wx ++ [(o, cO cL f)]) [.ref Xp, .int v1, .int v2, .int v3, .ref o] (wx ++ [(o, cO cL f)]) 1 := by
  intro sz
  refine va_MetW (cc := cL_ifLoaded) (maxL := 6) (ret := (some .int)) (by decide) rfl ?_
  intro p e s m args below meth c s₁ B hml hv
  obtain ⟨⟨⟨rfl, rfl, hP, hK, hD0, hN⟩, hX⟩, hKL⟩ := hv
  have hx := B.exec
  have hb := B.bytes
  have hr := B.returns
  have hts := atoms_spec (ws := wsL_ifLoaded) B.pre
  have hown : s.vm.findClass RL = some m.cls := findClass_of_methodNamed B.named
  have hlocks := B.notSynchronized
  have hD := hD0.self (sz := s.heap.size)
  have hA : ∀ q : Nat, s.heap.size ≤ q → va_A (wx ++ [(o, cO cL f)]) s.heap.size q := fun q h => Or.inr h
  have hS : va_S (va_A (wx ++ [(o, cO cL f)]) s.heap.size) s.heap s.heap [] := va_S.rf
  have hl := lv_entry ([.ref Xp, .int v1, .int v2, .int v3, .ref o]) (n := 6) (Nat.le_of_ble_eq_true rfl)
  rw [lg_entry_eq]
  generalize (lg_sl ([.ref Xp, .int v1, .int v2, .int v3, .ref o]) ++ List.replicate (6 - (lg_sl ([.ref Xp, .int v1, .int v2, .int v3, .ref o])).length) Slot.unset).toArray = ls at hl ⊢
  have hl : lv_has ls 6 [(0, .ref Xp), (1, .int v1), (2, .int v2), (3, .int v3), (4, .ref o)] := hl
  refine lv_aload hx hb dL_ifLoaded_0 (lv_at hl 4 rfl) ?_
  refine lv_iconst (v := 0) hx hb dL_ifLoaded_2 (by decide) ?_
  refine lv_aload_n hx hb dL_ifLoaded_3 rfl (lv_at hl 0 rfl) ?_
  refine lv_iload_n hx hb dL_ifLoaded_4 rfl (lv_at hl 1 rfl) ?_
  refine lv_iload_n hx hb dL_ifLoaded_5 rfl (lv_at hl 2 rfl) ?_
  refine lv_iload_n hx hb dL_ifLoaded_6 rfl (lv_at hl 3 rfl) ?_
  have htab : c.exceptionTable.toList = tableOf [(0, 12, 15, 13)] := vx_table (x := yL_ifLoaded) B (hts _ List.mem_cons_self)
  refine gvT (As := [.int v1, .int v2, .int v3]) (rest := [.int 0, .ref o]) ⟨hx, hb, hml, hown, hts⟩ hM (cwV 3 hts gL_ifLoaded_X4_ifLoaded rfl rfl rfl (by decide +kernel) ⟨Nat.le_of_ble_eq_true rfl, Nat.le_of_ble_eq_true rfl⟩) (va_recv hK hP (ci := 4) (q0 := 0) rfl (gat0 h0)) hP hK hD hN hX hS hA rfl hl.1 rfl (Nat.le_of_ble_eq_true rfl) dL_ifLoaded_7 ⟨Nat.le_of_ble_eq_true rfl, Nat.le_of_ble_eq_true rfl⟩ (fun q9 ce H locs hP hD hS hce hcv hcl => ?_)
  refine vx_catch hown [] ⟨0, 12, 15, 13⟩ [] htab (fun z9 h9 => absurd h9 List.not_mem_nil) (by decide) (by decide) (hts (.classLink RL 13 "java/lang/IllegalArgumentException") (List.mem_of_getElem? (i := 1) rfl)) (va_Nw.use rfl hX.2.2.2.2.2.2.1.2.2.2.1) hce hcv hcl ?_
  refine lv_astore (lv' := [(5, .ref q9), (0, .ref Xp), (1, .int v1), (2, .int v2), (3, .int v3), (4, .ref o)]) hx hb dL_ifLoaded_15 hl (by decide) rfl (fun ls hl => ?_)
  refine lv_iconst (v := 1) hx hb dL_ifLoaded_17 (by decide) ?_
  exact gretL hx hb hr hlocks hP hD hS rfl rfl dL_ifLoaded_18 (by omega) (by omega)
set_option maxHeartbeats 4000000 in
set_option maxRecDepth 100000 in
theorem wg_settles (l : Launch) (E : EE) (cL : ClassId) (T0 : Nat → Nat) (wx : va_W) (Xp o : Nat) (fs : List Value) (f : Nat → Int64) (v1 : Int32) (wx1 : va_W) (ans : Int32) (h0 : wx[0]? = some (Xp, .inr (4, fs))) (hM : GM l yX4_settles wsX4_settles 4 91 E wx [.ref Xp, .int v1] wx1 (some (.int ans))) : GL l yL_settles wsL_settles E cL T0 (wx ++ [(o, cO cL f)]) [.ref Xp, .int v1, .ref o] (wx1 ++ [(o, cO cL (vp_updL f 0 ans.toInt64))]) 0 := by
  intro sz
  refine va_MetW (cc := cL_settles) (maxL := 4) (ret := (some .int)) (by decide) rfl ?_
  intro p e s m args below meth c s₁ B hml hv
  obtain ⟨⟨⟨rfl, rfl, hP, hK, hD0, hN⟩, hX⟩, hKL⟩ := hv
  have hx := B.exec
  have hb := B.bytes
  have hr := B.returns
  have hts := atoms_spec (ws := wsL_settles) B.pre
  have hown : s.vm.findClass RL = some m.cls := findClass_of_methodNamed B.named
  have hlocks := B.notSynchronized
  have hD := hD0.self (sz := s.heap.size)
  have hA : ∀ q : Nat, s.heap.size ≤ q → va_A (wx ++ [(o, cO cL f)]) s.heap.size q := fun q h => Or.inr h
  have hS : va_S (va_A (wx ++ [(o, cO cL f)]) s.heap.size) s.heap s.heap [] := va_S.rf
  have hl := lv_entry ([.ref Xp, .int v1, .ref o]) (n := 4) (Nat.le_of_ble_eq_true rfl)
  rw [lg_entry_eq]
  generalize (lg_sl ([.ref Xp, .int v1, .ref o]) ++ List.replicate (4 - (lg_sl ([.ref Xp, .int v1, .ref o])).length) Slot.unset).toArray = ls at hl ⊢
  have hl : lv_has ls 4 [(0, .ref Xp), (1, .int v1), (2, .ref o)] := hl
  refine lv_aload_n hx hb dL_settles_0 rfl (lv_at hl 2 rfl) ?_
  refine lv_iconst (v := 0) hx hb dL_settles_1 (by decide) ?_
  refine lv_aload_n hx hb dL_settles_2 rfl (lv_at hl 0 rfl) ?_
  refine lv_iload_n hx hb dL_settles_3 rfl (lv_at hl 1 rfl) ?_
  refine gvMi [] [(o, cO cL f)] (As := [.int v1]) (rest := [.int 0, .ref o]) ⟨hx, hb, hml, hown, hts⟩ hM (cwV 1 hts gL_settles_X4_settles rfl rfl rfl (by decide +kernel) ⟨Nat.le_of_ble_eq_true rfl, Nat.le_of_ble_eq_true rfl⟩) (va_recv hK hP (ci := 4) (q0 := 0) rfl (gat0 h0)) hP hK hD hN hS hA rfl hl.1 rfl (Nat.le_of_ble_eq_true rfl) dL_settles_4 ⟨Nat.le_of_ble_eq_true rfl, Nat.le_of_ble_eq_true rfl⟩ (fun H locs hP hD hS => ?_)
  have hP : va_P E.1 vwCl (wx1 ++ [(o, cO cL f)]) H := hP
  have hD : va_D (va_A (wx ++ [(o, cO cL f)]) s.heap.size) (wx1 ++ [(o, cO cL f)]) := hD
  refine lv_i2l hx hb dL_settles_7 (v := ans.toInt64) rfl ?_
  refine va_last hx hb hKL hP hD hS wx1.length 0 (at_end _ _) rfl (by unfold vp_in; decide) dL_settles_8 (fun H locs hP hD hS => ?_)
  refine lv_goto (tgt := 15) hx hb dL_settles_9 (by decide) ?_
  refine lv_iconst (v := 0) hx hb dL_settles_15 (by decide) ?_
  exact gretL hx hb hr hlocks hP hD hS rfl (by rw [set_end]; rfl) dL_settles_16 (by omega) (by omega)
set_option maxHeartbeats 4000000 in
set_option maxRecDepth 100000 in
theorem wt_settles_IAE (l : Launch) (E : EE) (cL : ClassId) (T0 : Nat → Nat) (wx : va_W) (Xp o : Nat) (fs : List Value) (f : Nat → Int64) (v1 : Int32) (h0 : wx[0]? = some (Xp, .inr (4, fs))) (hM : GT l yX4_settles wsX4_settles 6 82 E T0 wx [.ref Xp, .int v1] IAE) : GL l yL_settles wsL_settles E cL T0 (wx ++ [(o, cO cL f)]) [.ref Xp, .int v1, .ref o] (wx ++ [(o, cO cL f)]) 1 := by
  intro sz
  refine va_MetW (cc := cL_settles) (maxL := 4) (ret := (some .int)) (by decide) rfl ?_
  intro p e s m args below meth c s₁ B hml hv
  obtain ⟨⟨⟨rfl, rfl, hP, hK, hD0, hN⟩, hX⟩, hKL⟩ := hv
  have hx := B.exec
  have hb := B.bytes
  have hr := B.returns
  have hts := atoms_spec (ws := wsL_settles) B.pre
  have hown : s.vm.findClass RL = some m.cls := findClass_of_methodNamed B.named
  have hlocks := B.notSynchronized
  have hD := hD0.self (sz := s.heap.size)
  have hA : ∀ q : Nat, s.heap.size ≤ q → va_A (wx ++ [(o, cO cL f)]) s.heap.size q := fun q h => Or.inr h
  have hS : va_S (va_A (wx ++ [(o, cO cL f)]) s.heap.size) s.heap s.heap [] := va_S.rf
  have hl := lv_entry ([.ref Xp, .int v1, .ref o]) (n := 4) (Nat.le_of_ble_eq_true rfl)
  rw [lg_entry_eq]
  generalize (lg_sl ([.ref Xp, .int v1, .ref o]) ++ List.replicate (4 - (lg_sl ([.ref Xp, .int v1, .ref o])).length) Slot.unset).toArray = ls at hl ⊢
  have hl : lv_has ls 4 [(0, .ref Xp), (1, .int v1), (2, .ref o)] := hl
  refine lv_aload_n hx hb dL_settles_0 rfl (lv_at hl 2 rfl) ?_
  refine lv_iconst (v := 0) hx hb dL_settles_1 (by decide) ?_
  refine lv_aload_n hx hb dL_settles_2 rfl (lv_at hl 0 rfl) ?_
  refine lv_iload_n hx hb dL_settles_3 rfl (lv_at hl 1 rfl) ?_
  have htab : c.exceptionTable.toList = tableOf [(0, 9, 12, 13)] := vx_table (x := yL_settles) B (hts _ List.mem_cons_self)
  refine gvT (As := [.int v1]) (rest := [.int 0, .ref o]) ⟨hx, hb, hml, hown, hts⟩ hM (cwV 1 hts gL_settles_X4_settles rfl rfl rfl (by decide +kernel) ⟨Nat.le_of_ble_eq_true rfl, Nat.le_of_ble_eq_true rfl⟩) (va_recv hK hP (ci := 4) (q0 := 0) rfl (gat0 h0)) hP hK hD hN hX hS hA rfl hl.1 rfl (Nat.le_of_ble_eq_true rfl) dL_settles_4 ⟨Nat.le_of_ble_eq_true rfl, Nat.le_of_ble_eq_true rfl⟩ (fun q9 ce H locs hP hD hS hce hcv hcl => ?_)
  refine vx_catch hown [] ⟨0, 9, 12, 13⟩ [] htab (fun z9 h9 => absurd h9 List.not_mem_nil) (by decide) (by decide) (hts (.classLink RL 13 "java/lang/IllegalArgumentException") (List.mem_of_getElem? (i := 1) rfl)) (va_Nw.use rfl hX.2.2.2.2.2.2.1.2.2.2.1) hce hcv hcl ?_
  refine lv_astore_n (lv' := [(3, .ref q9), (0, .ref Xp), (1, .int v1), (2, .ref o)]) hx hb dL_settles_12 rfl hl (by decide) rfl (fun ls hl => ?_)
  refine lv_iconst (v := 1) hx hb dL_settles_13 (by decide) ?_
  exact gretL hx hb hr hlocks hP hD hS rfl rfl dL_settles_14 (by omega) (by omega)
set_option maxHeartbeats 4000000 in
set_option maxRecDepth 100000 in
theorem wg_greatestLoad (l : Launch) (E : EE) (cL : ClassId) (T0 : Nat → Nat) (wx : va_W) (Xp o : Nat) (fs : List Value) (f : Nat → Int64) (v1 : Int32) (wx1 : va_W) (ans : Int32) (h0 : wx[0]? = some (Xp, .inr (4, fs))) (hM : GM l yX4_greatestLoad wsX4_greatestLoad 5 114 E wx [.ref Xp, .int v1] wx1 (some (.int ans))) : GL l yL_greatestLoad wsL_greatestLoad E cL T0 (wx ++ [(o, cO cL f)]) [.ref Xp, .int v1, .ref o] (wx1 ++ [(o, cO cL (vp_updL f 0 ans.toInt64))]) 0 := by
  intro sz
  refine va_MetW (cc := cL_greatestLoad) (maxL := 4) (ret := (some .int)) (by decide) rfl ?_
  intro p e s m args below meth c s₁ B hml hv
  obtain ⟨⟨⟨rfl, rfl, hP, hK, hD0, hN⟩, hX⟩, hKL⟩ := hv
  have hx := B.exec
  have hb := B.bytes
  have hr := B.returns
  have hts := atoms_spec (ws := wsL_greatestLoad) B.pre
  have hown : s.vm.findClass RL = some m.cls := findClass_of_methodNamed B.named
  have hlocks := B.notSynchronized
  have hD := hD0.self (sz := s.heap.size)
  have hA : ∀ q : Nat, s.heap.size ≤ q → va_A (wx ++ [(o, cO cL f)]) s.heap.size q := fun q h => Or.inr h
  have hS : va_S (va_A (wx ++ [(o, cO cL f)]) s.heap.size) s.heap s.heap [] := va_S.rf
  have hl := lv_entry ([.ref Xp, .int v1, .ref o]) (n := 4) (Nat.le_of_ble_eq_true rfl)
  rw [lg_entry_eq]
  generalize (lg_sl ([.ref Xp, .int v1, .ref o]) ++ List.replicate (4 - (lg_sl ([.ref Xp, .int v1, .ref o])).length) Slot.unset).toArray = ls at hl ⊢
  have hl : lv_has ls 4 [(0, .ref Xp), (1, .int v1), (2, .ref o)] := hl
  refine lv_aload_n hx hb dL_greatestLoad_0 rfl (lv_at hl 2 rfl) ?_
  refine lv_iconst (v := 0) hx hb dL_greatestLoad_1 (by decide) ?_
  refine lv_aload_n hx hb dL_greatestLoad_2 rfl (lv_at hl 0 rfl) ?_
  refine lv_iload_n hx hb dL_greatestLoad_3 rfl (lv_at hl 1 rfl) ?_
  refine gvMi [] [(o, cO cL f)] (As := [.int v1]) (rest := [.int 0, .ref o]) ⟨hx, hb, hml, hown, hts⟩ hM (cwV 1 hts gL_greatestLoad_X4_greatestLoad rfl rfl rfl (by decide +kernel) ⟨Nat.le_of_ble_eq_true rfl, Nat.le_of_ble_eq_true rfl⟩) (va_recv hK hP (ci := 4) (q0 := 0) rfl (gat0 h0)) hP hK hD hN hS hA rfl hl.1 rfl (Nat.le_of_ble_eq_true rfl) dL_greatestLoad_4 ⟨Nat.le_of_ble_eq_true rfl, Nat.le_of_ble_eq_true rfl⟩ (fun H locs hP hD hS => ?_)
  have hP : va_P E.1 vwCl (wx1 ++ [(o, cO cL f)]) H := hP
  have hD : va_D (va_A (wx ++ [(o, cO cL f)]) s.heap.size) (wx1 ++ [(o, cO cL f)]) := hD
  refine lv_i2l hx hb dL_greatestLoad_7 (v := ans.toInt64) rfl ?_
  refine va_last hx hb hKL hP hD hS wx1.length 0 (at_end _ _) rfl (by unfold vp_in; decide) dL_greatestLoad_8 (fun H locs hP hD hS => ?_)
  refine lv_goto (tgt := 15) hx hb dL_greatestLoad_9 (by decide) ?_
  refine lv_iconst (v := 0) hx hb dL_greatestLoad_15 (by decide) ?_
  exact gretL hx hb hr hlocks hP hD hS rfl (by rw [set_end]; rfl) dL_greatestLoad_16 (by omega) (by omega)
set_option maxHeartbeats 4000000 in
set_option maxRecDepth 100000 in
theorem wt_greatestLoad_IAE (l : Launch) (E : EE) (cL : ClassId) (T0 : Nat → Nat) (wx : va_W) (Xp o : Nat) (fs : List Value) (f : Nat → Int64) (v1 : Int32) (h0 : wx[0]? = some (Xp, .inr (4, fs))) (hM : GT l yX4_greatestLoad wsX4_greatestLoad 6 82 E T0 wx [.ref Xp, .int v1] IAE) : GL l yL_greatestLoad wsL_greatestLoad E cL T0 (wx ++ [(o, cO cL f)]) [.ref Xp, .int v1, .ref o] (wx ++ [(o, cO cL f)]) 1 := by
  intro sz
  refine va_MetW (cc := cL_greatestLoad) (maxL := 4) (ret := (some .int)) (by decide) rfl ?_
  intro p e s m args below meth c s₁ B hml hv
  obtain ⟨⟨⟨rfl, rfl, hP, hK, hD0, hN⟩, hX⟩, hKL⟩ := hv
  have hx := B.exec
  have hb := B.bytes
  have hr := B.returns
  have hts := atoms_spec (ws := wsL_greatestLoad) B.pre
  have hown : s.vm.findClass RL = some m.cls := findClass_of_methodNamed B.named
  have hlocks := B.notSynchronized
  have hD := hD0.self (sz := s.heap.size)
  have hA : ∀ q : Nat, s.heap.size ≤ q → va_A (wx ++ [(o, cO cL f)]) s.heap.size q := fun q h => Or.inr h
  have hS : va_S (va_A (wx ++ [(o, cO cL f)]) s.heap.size) s.heap s.heap [] := va_S.rf
  have hl := lv_entry ([.ref Xp, .int v1, .ref o]) (n := 4) (Nat.le_of_ble_eq_true rfl)
  rw [lg_entry_eq]
  generalize (lg_sl ([.ref Xp, .int v1, .ref o]) ++ List.replicate (4 - (lg_sl ([.ref Xp, .int v1, .ref o])).length) Slot.unset).toArray = ls at hl ⊢
  have hl : lv_has ls 4 [(0, .ref Xp), (1, .int v1), (2, .ref o)] := hl
  refine lv_aload_n hx hb dL_greatestLoad_0 rfl (lv_at hl 2 rfl) ?_
  refine lv_iconst (v := 0) hx hb dL_greatestLoad_1 (by decide) ?_
  refine lv_aload_n hx hb dL_greatestLoad_2 rfl (lv_at hl 0 rfl) ?_
  refine lv_iload_n hx hb dL_greatestLoad_3 rfl (lv_at hl 1 rfl) ?_
  have htab : c.exceptionTable.toList = tableOf [(0, 9, 12, 13)] := vx_table (x := yL_greatestLoad) B (hts _ List.mem_cons_self)
  refine gvT (As := [.int v1]) (rest := [.int 0, .ref o]) ⟨hx, hb, hml, hown, hts⟩ hM (cwV 1 hts gL_greatestLoad_X4_greatestLoad rfl rfl rfl (by decide +kernel) ⟨Nat.le_of_ble_eq_true rfl, Nat.le_of_ble_eq_true rfl⟩) (va_recv hK hP (ci := 4) (q0 := 0) rfl (gat0 h0)) hP hK hD hN hX hS hA rfl hl.1 rfl (Nat.le_of_ble_eq_true rfl) dL_greatestLoad_4 ⟨Nat.le_of_ble_eq_true rfl, Nat.le_of_ble_eq_true rfl⟩ (fun q9 ce H locs hP hD hS hce hcv hcl => ?_)
  refine vx_catch hown [] ⟨0, 9, 12, 13⟩ [] htab (fun z9 h9 => absurd h9 List.not_mem_nil) (by decide) (by decide) (hts (.classLink RL 13 "java/lang/IllegalArgumentException") (List.mem_of_getElem? (i := 1) rfl)) (va_Nw.use rfl hX.2.2.2.2.2.2.1.2.2.2.1) hce hcv hcl ?_
  refine lv_astore_n (lv' := [(3, .ref q9), (0, .ref Xp), (1, .int v1), (2, .ref o)]) hx hb dL_greatestLoad_12 rfl hl (by decide) rfl (fun ls hl => ?_)
  refine lv_iconst (v := 1) hx hb dL_greatestLoad_13 (by decide) ?_
  exact gretL hx hb hr hlocks hP hD hS rfl rfl dL_greatestLoad_14 (by omega) (by omega)
