set_option maxHeartbeats 4000000 in
set_option maxRecDepth 100000 in
theorem c_X5_first (l : Launch) (E : EE) (k0 : Nat) (hk : k0 < 15) : GM l yX5_first wsX5_first 0 0 E ([]) [.int (nI k0)] ([]) (some (.int (firstT k0))) := by
  intro sz
  refine Met.ofW (cc := cX5_first) (maxL := 1) (ret := (some .int)) (by decide) rfl ?_
  intro p e s m args below meth c s₁ B hml hv
  obtain ⟨rfl, rfl, hP, hK, hD0, hN⟩ := hv
  have hx := B.exec
  have hb := B.bytes
  have hr := B.returns
  have hts := atoms_spec (ws := wsX5_first) B.pre
  have hown : s.vm.findClass RX5 = some m.cls := findClass_of_methodNamed B.named
  have hlocks := B.notSynchronized
  have hD := hD0.self (sz := s.heap.size)
  have hA : ∀ q : Nat, s.heap.size ≤ q → va_A ([]) s.heap.size q := fun q h => Or.inr h
  have hS : va_S (va_A ([]) s.heap.size) s.heap s.heap [] := va_S.rf
  have hl := lv_entry ([.int (nI k0)]) (n := 1) (Nat.le_of_ble_eq_true rfl)
  rw [lg_entry_eq]
  generalize (lg_sl ([.int (nI k0)]) ++ List.replicate (1 - (lg_sl ([.int (nI k0)])).length) Slot.unset).toArray = ls at hl ⊢
  have hl : lv_has ls 1 [(0, .int (nI k0))] := hl
  refine lv_iload_n hx hb dX5_first_0 rfl (lv_at hl 0 rfl) ?_
  obtain rfl | rfl | rfl | rfl | rfl | rfl | rfl | rfl | rfl | rfl | rfl | rfl | rfl | rfl | rfl : k0 = 0 ∨ k0 = 1 ∨ k0 = 2 ∨ k0 = 3 ∨ k0 = 4 ∨ k0 = 5 ∨ k0 = 6 ∨ k0 = 7 ∨ k0 = 8 ∨ k0 = 9 ∨ k0 = 10 ∨ k0 = 11 ∨ k0 = 12 ∨ k0 = 13 ∨ k0 = 14 := by omega
  · refine lv_tableIn (off := 75) (tgt := 76) hx hb dX5_first_1 (by decide) (by decide) (by decide) (by decide) ?_
    refine lv_sipush (v := 12000) hx hb dX5_first_76 (by decide) ?_
    exact greti hx hb hr hlocks hP hD hS (rfl) (rfl) dX5_first_79
  · refine lv_tableIn (off := 79) (tgt := 80) hx hb dX5_first_1 (by decide) (by decide) (by decide) (by decide) ?_
    refine lv_sipush (v := 3300) hx hb dX5_first_80 (by decide) ?_
    exact greti hx hb hr hlocks hP hD hS (rfl) (rfl) dX5_first_83
  · refine lv_tableIn (off := 83) (tgt := 84) hx hb dX5_first_1 (by decide) (by decide) (by decide) (by decide) ?_
    refine lv_sipush (v := 1000) hx hb dX5_first_84 (by decide) ?_
    exact greti hx hb hr hlocks hP hD hS (rfl) (rfl) dX5_first_87
  · refine lv_tableIn (off := 87) (tgt := 88) hx hb dX5_first_1 (by decide) (by decide) (by decide) (by decide) ?_
    refine lv_bipush (v := 20) hx hb dX5_first_88 (by decide) ?_
    exact greti hx hb hr hlocks hP hD hS (rfl) (rfl) dX5_first_90
  · refine lv_tableIn (off := 90) (tgt := 91) hx hb dX5_first_1 (by decide) (by decide) (by decide) (by decide) ?_
    refine lv_bipush (v := 50) hx hb dX5_first_91 (by decide) ?_
    exact greti hx hb hr hlocks hP hD hS (rfl) (rfl) dX5_first_93
  · refine lv_tableIn (off := 93) (tgt := 94) hx hb dX5_first_1 (by decide) (by decide) (by decide) (by decide) ?_
    refine lv_sipush (v := 8000) hx hb dX5_first_94 (by decide) ?_
    exact greti hx hb hr hlocks hP hD hS (rfl) (rfl) dX5_first_97
  · refine lv_tableIn (off := 90) (tgt := 91) hx hb dX5_first_1 (by decide) (by decide) (by decide) (by decide) ?_
    refine lv_bipush (v := 50) hx hb dX5_first_91 (by decide) ?_
    exact greti hx hb hr hlocks hP hD hS (rfl) (rfl) dX5_first_93
  · refine lv_tableIn (off := 87) (tgt := 88) hx hb dX5_first_1 (by decide) (by decide) (by decide) (by decide) ?_
    refine lv_bipush (v := 20) hx hb dX5_first_88 (by decide) ?_
    exact greti hx hb hr hlocks hP hD hS (rfl) (rfl) dX5_first_90
  · refine lv_tableIn (off := 97) (tgt := 98) hx hb dX5_first_1 (by decide) (by decide) (by decide) (by decide) ?_
    refine lv_bipush (v := 100) hx hb dX5_first_98 (by decide) ?_
    exact greti hx hb hr hlocks hP hD hS (rfl) (rfl) dX5_first_100
  · refine lv_tableIn (off := 100) (tgt := 101) hx hb dX5_first_1 (by decide) (by decide) (by decide) (by decide) ?_
    refine lv_sipush (v := 300) hx hb dX5_first_101 (by decide) ?_
    exact greti hx hb hr hlocks hP hD hS (rfl) (rfl) dX5_first_104
  · refine lv_tableIn (off := 104) (tgt := 105) hx hb dX5_first_1 (by decide) (by decide) (by decide) (by decide) ?_
    refine lv_sipush (v := 3000) hx hb dX5_first_105 (by decide) ?_
    exact greti hx hb hr hlocks hP hD hS (rfl) (rfl) dX5_first_108
  · refine lv_tableIn (off := 83) (tgt := 84) hx hb dX5_first_1 (by decide) (by decide) (by decide) (by decide) ?_
    refine lv_sipush (v := 1000) hx hb dX5_first_84 (by decide) ?_
    exact greti hx hb hr hlocks hP hD hS (rfl) (rfl) dX5_first_87
  · refine lv_tableIn (off := 108) (tgt := 109) hx hb dX5_first_1 (by decide) (by decide) (by decide) (by decide) ?_
    refine lv_sipush (v := 5000) hx hb dX5_first_109 (by decide) ?_
    exact greti hx hb hr hlocks hP hD hS (rfl) (rfl) dX5_first_112
  · refine lv_tableIn (off := 112) (tgt := 113) hx hb dX5_first_1 (by decide) (by decide) (by decide) (by decide) ?_
    refine lv_sipush (v := 4000) hx hb dX5_first_113 (by decide) ?_
    exact greti hx hb hr hlocks hP hD hS (rfl) (rfl) dX5_first_116
  · refine lv_tableIn (off := 97) (tgt := 98) hx hb dX5_first_1 (by decide) (by decide) (by decide) (by decide) ?_
    refine lv_bipush (v := 100) hx hb dX5_first_98 (by decide) ?_
    exact greti hx hb hr hlocks hP hD hS (rfl) (rfl) dX5_first_100

set_option maxHeartbeats 4000000 in
set_option maxRecDepth 100000 in
theorem c_X5_lowest (l : Launch) (E : EE) (k0 : Nat) (hk : k0 < 15) : GM l yX5_lowest wsX5_lowest 0 0 E ([]) [.int (nI k0)] ([]) (some (.int (lowT k0))) := by
  intro sz
  refine Met.ofW (cc := cX5_lowest) (maxL := 1) (ret := (some .int)) (by decide) rfl ?_
  intro p e s m args below meth c s₁ B hml hv
  obtain ⟨rfl, rfl, hP, hK, hD0, hN⟩ := hv
  have hx := B.exec
  have hb := B.bytes
  have hr := B.returns
  have hts := atoms_spec (ws := wsX5_lowest) B.pre
  have hown : s.vm.findClass RX5 = some m.cls := findClass_of_methodNamed B.named
  have hlocks := B.notSynchronized
  have hD := hD0.self (sz := s.heap.size)
  have hA : ∀ q : Nat, s.heap.size ≤ q → va_A ([]) s.heap.size q := fun q h => Or.inr h
  have hS : va_S (va_A ([]) s.heap.size) s.heap s.heap [] := va_S.rf
  have hl := lv_entry ([.int (nI k0)]) (n := 1) (Nat.le_of_ble_eq_true rfl)
  rw [lg_entry_eq]
  generalize (lg_sl ([.int (nI k0)]) ++ List.replicate (1 - (lg_sl ([.int (nI k0)])).length) Slot.unset).toArray = ls at hl ⊢
  have hl : lv_has ls 1 [(0, .int (nI k0))] := hl
  refine lv_iload_n hx hb dX5_lowest_0 rfl (lv_at hl 0 rfl) ?_
  obtain rfl | rfl | rfl | rfl | rfl | rfl | rfl | rfl | rfl | rfl | rfl | rfl | rfl | rfl | rfl : k0 = 0 ∨ k0 = 1 ∨ k0 = 2 ∨ k0 = 3 ∨ k0 = 4 ∨ k0 = 5 ∨ k0 = 6 ∨ k0 = 7 ∨ k0 = 8 ∨ k0 = 9 ∨ k0 = 10 ∨ k0 = 11 ∨ k0 = 12 ∨ k0 = 13 ∨ k0 = 14 := by omega
  · refine lv_tableIn (off := 67) (tgt := 68) hx hb dX5_lowest_1 (by decide) (by decide) (by decide) (by decide) ?_
    refine lv_sipush (v := 1000) hx hb dX5_lowest_68 (by decide) ?_
    exact greti hx hb hr hlocks hP hD hS (rfl) (rfl) dX5_lowest_71
  · refine lv_tableIn (off := 71) (tgt := 72) hx hb dX5_lowest_1 (by decide) (by decide) (by decide) (by decide) ?_
    refine lv_sipush (v := 500) hx hb dX5_lowest_72 (by decide) ?_
    exact greti hx hb hr hlocks hP hD hS (rfl) (rfl) dX5_lowest_75
  · refine lv_tableIn (off := 80) (tgt := 81) hx hb dX5_lowest_1 (by decide) (by decide) (by decide) (by decide) ?_
    refine lv_iconst (v := 0) hx hb dX5_lowest_81 (by decide) ?_
    exact greti hx hb hr hlocks hP hD hS (rfl) (rfl) dX5_lowest_82
  · refine lv_tableIn (off := 75) (tgt := 76) hx hb dX5_lowest_1 (by decide) (by decide) (by decide) (by decide) ?_
    refine lv_iconst (v := 1) hx hb dX5_lowest_76 (by decide) ?_
    exact greti hx hb hr hlocks hP hD hS (rfl) (rfl) dX5_lowest_77
  · refine lv_tableIn (off := 75) (tgt := 76) hx hb dX5_lowest_1 (by decide) (by decide) (by decide) (by decide) ?_
    refine lv_iconst (v := 1) hx hb dX5_lowest_76 (by decide) ?_
    exact greti hx hb hr hlocks hP hD hS (rfl) (rfl) dX5_lowest_77
  · refine lv_tableIn (off := 77) (tgt := 78) hx hb dX5_lowest_1 (by decide) (by decide) (by decide) (by decide) ?_
    refine lv_bipush (v := 100) hx hb dX5_lowest_78 (by decide) ?_
    exact greti hx hb hr hlocks hP hD hS (rfl) (rfl) dX5_lowest_80
  · refine lv_tableIn (off := 80) (tgt := 81) hx hb dX5_lowest_1 (by decide) (by decide) (by decide) (by decide) ?_
    refine lv_iconst (v := 0) hx hb dX5_lowest_81 (by decide) ?_
    exact greti hx hb hr hlocks hP hD hS (rfl) (rfl) dX5_lowest_82
  · refine lv_tableIn (off := 80) (tgt := 81) hx hb dX5_lowest_1 (by decide) (by decide) (by decide) (by decide) ?_
    refine lv_iconst (v := 0) hx hb dX5_lowest_81 (by decide) ?_
    exact greti hx hb hr hlocks hP hD hS (rfl) (rfl) dX5_lowest_82
  · refine lv_tableIn (off := 75) (tgt := 76) hx hb dX5_lowest_1 (by decide) (by decide) (by decide) (by decide) ?_
    refine lv_iconst (v := 1) hx hb dX5_lowest_76 (by decide) ?_
    exact greti hx hb hr hlocks hP hD hS (rfl) (rfl) dX5_lowest_77
  · refine lv_tableIn (off := 80) (tgt := 81) hx hb dX5_lowest_1 (by decide) (by decide) (by decide) (by decide) ?_
    refine lv_iconst (v := 0) hx hb dX5_lowest_81 (by decide) ?_
    exact greti hx hb hr hlocks hP hD hS (rfl) (rfl) dX5_lowest_82
  · refine lv_tableIn (off := 75) (tgt := 76) hx hb dX5_lowest_1 (by decide) (by decide) (by decide) (by decide) ?_
    refine lv_iconst (v := 1) hx hb dX5_lowest_76 (by decide) ?_
    exact greti hx hb hr hlocks hP hD hS (rfl) (rfl) dX5_lowest_77
  · refine lv_tableIn (off := 80) (tgt := 81) hx hb dX5_lowest_1 (by decide) (by decide) (by decide) (by decide) ?_
    refine lv_iconst (v := 0) hx hb dX5_lowest_81 (by decide) ?_
    exact greti hx hb hr hlocks hP hD hS (rfl) (rfl) dX5_lowest_82
  · refine lv_tableIn (off := 71) (tgt := 72) hx hb dX5_lowest_1 (by decide) (by decide) (by decide) (by decide) ?_
    refine lv_sipush (v := 500) hx hb dX5_lowest_72 (by decide) ?_
    exact greti hx hb hr hlocks hP hD hS (rfl) (rfl) dX5_lowest_75
  · refine lv_tableOut (tgt := 81) hx hb dX5_lowest_1 (by decide) (by decide) ?_
    refine lv_iconst (v := 0) hx hb dX5_lowest_81 (by decide) ?_
    exact greti hx hb hr hlocks hP hD hS (rfl) (rfl) dX5_lowest_82
  · refine lv_tableOut (tgt := 81) hx hb dX5_lowest_1 (by decide) (by decide) ?_
    refine lv_iconst (v := 0) hx hb dX5_lowest_81 (by decide) ?_
    exact greti hx hb hr hlocks hP hD hS (rfl) (rfl) dX5_lowest_82

set_option maxHeartbeats 4000000 in
set_option maxRecDepth 100000 in
theorem c_X5_highest (l : Launch) (E : EE) (k0 : Nat) (hk : k0 < 15) : GM l yX5_highest wsX5_highest 0 0 E ([]) [.int (nI k0)] ([]) (some (.int (highT k0))) := by
  intro sz
  refine Met.ofW (cc := cX5_highest) (maxL := 1) (ret := (some .int)) (by decide) rfl ?_
  intro p e s m args below meth c s₁ B hml hv
  obtain ⟨rfl, rfl, hP, hK, hD0, hN⟩ := hv
  have hx := B.exec
  have hb := B.bytes
  have hr := B.returns
  have hts := atoms_spec (ws := wsX5_highest) B.pre
  have hown : s.vm.findClass RX5 = some m.cls := findClass_of_methodNamed B.named
  have hlocks := B.notSynchronized
  have hD := hD0.self (sz := s.heap.size)
  have hA : ∀ q : Nat, s.heap.size ≤ q → va_A ([]) s.heap.size q := fun q h => Or.inr h
  have hS : va_S (va_A ([]) s.heap.size) s.heap s.heap [] := va_S.rf
  have hl := lv_entry ([.int (nI k0)]) (n := 1) (Nat.le_of_ble_eq_true rfl)
  rw [lg_entry_eq]
  generalize (lg_sl ([.int (nI k0)]) ++ List.replicate (1 - (lg_sl ([.int (nI k0)])).length) Slot.unset).toArray = ls at hl ⊢
  have hl : lv_has ls 1 [(0, .int (nI k0))] := hl
  refine lv_iload_n hx hb dX5_highest_0 rfl (lv_at hl 0 rfl) ?_
  obtain rfl | rfl | rfl | rfl | rfl | rfl | rfl | rfl | rfl | rfl | rfl | rfl | rfl | rfl | rfl : k0 = 0 ∨ k0 = 1 ∨ k0 = 2 ∨ k0 = 3 ∨ k0 = 4 ∨ k0 = 5 ∨ k0 = 6 ∨ k0 = 7 ∨ k0 = 8 ∨ k0 = 9 ∨ k0 = 10 ∨ k0 = 11 ∨ k0 = 12 ∨ k0 = 13 ∨ k0 = 14 := by omega
  · refine lv_tableIn (off := 75) (tgt := 76) hx hb dX5_highest_1 (by decide) (by decide) (by decide) (by decide) ?_
    refine lv_sipush (v := 24000) hx hb dX5_highest_76 (by decide) ?_
    exact greti hx hb hr hlocks hP hD hS (rfl) (rfl) dX5_highest_79
  · refine lv_tableIn (off := 79) (tgt := 80) hx hb dX5_highest_1 (by decide) (by decide) (by decide) (by decide) ?_
    refine lv_sipush (v := 12000) hx hb dX5_highest_80 (by decide) ?_
    exact greti hx hb hr hlocks hP hD hS (rfl) (rfl) dX5_highest_83
  · refine lv_tableIn (off := 83) (tgt := 84) hx hb dX5_highest_1 (by decide) (by decide) (by decide) (by decide) ?_
    refine lv_ldc (own := RX5) (v := 60000) hx hb hown (hts (.constant RX5 30 (60000)) (List.mem_of_getElem? (i := 1) rfl)) dX5_highest_84 ?_
    exact greti hx hb hr hlocks hP hD hS (rfl) (rfl) dX5_highest_86
  · refine lv_tableIn (off := 86) (tgt := 87) hx hb dX5_highest_1 (by decide) (by decide) (by decide) (by decide) ?_
    refine lv_bipush (v := 100) hx hb dX5_highest_87 (by decide) ?_
    exact greti hx hb hr hlocks hP hD hS (rfl) (rfl) dX5_highest_89
  · refine lv_tableIn (off := 89) (tgt := 90) hx hb dX5_highest_1 (by decide) (by decide) (by decide) (by decide) ?_
    refine lv_sipush (v := 500) hx hb dX5_highest_90 (by decide) ?_
    exact greti hx hb hr hlocks hP hD hS (rfl) (rfl) dX5_highest_93
  · refine lv_tableIn (off := 105) (tgt := 106) hx hb dX5_highest_1 (by decide) (by decide) (by decide) (by decide) ?_
    refine lv_sipush (v := 30000) hx hb dX5_highest_106 (by decide) ?_
    exact greti hx hb hr hlocks hP hD hS (rfl) (rfl) dX5_highest_109
  · refine lv_tableIn (off := 89) (tgt := 90) hx hb dX5_highest_1 (by decide) (by decide) (by decide) (by decide) ?_
    refine lv_sipush (v := 500) hx hb dX5_highest_90 (by decide) ?_
    exact greti hx hb hr hlocks hP hD hS (rfl) (rfl) dX5_highest_93
  · refine lv_tableIn (off := 89) (tgt := 90) hx hb dX5_highest_1 (by decide) (by decide) (by decide) (by decide) ?_
    refine lv_sipush (v := 500) hx hb dX5_highest_90 (by decide) ?_
    exact greti hx hb hr hlocks hP hD hS (rfl) (rfl) dX5_highest_93
  · refine lv_tableIn (off := 93) (tgt := 94) hx hb dX5_highest_1 (by decide) (by decide) (by decide) (by decide) ?_
    refine lv_sipush (v := 2000) hx hb dX5_highest_94 (by decide) ?_
    exact greti hx hb hr hlocks hP hD hS (rfl) (rfl) dX5_highest_97
  · refine lv_tableIn (off := 97) (tgt := 98) hx hb dX5_highest_1 (by decide) (by decide) (by decide) (by decide) ?_
    refine lv_sipush (v := 10000) hx hb dX5_highest_98 (by decide) ?_
    exact greti hx hb hr hlocks hP hD hS (rfl) (rfl) dX5_highest_101
  · refine lv_tableIn (off := 105) (tgt := 106) hx hb dX5_highest_1 (by decide) (by decide) (by decide) (by decide) ?_
    refine lv_sipush (v := 30000) hx hb dX5_highest_106 (by decide) ?_
    exact greti hx hb hr hlocks hP hD hS (rfl) (rfl) dX5_highest_109
  · refine lv_tableIn (off := 105) (tgt := 106) hx hb dX5_highest_1 (by decide) (by decide) (by decide) (by decide) ?_
    refine lv_sipush (v := 30000) hx hb dX5_highest_106 (by decide) ?_
    exact greti hx hb hr hlocks hP hD hS (rfl) (rfl) dX5_highest_109
  · refine lv_tableIn (off := 105) (tgt := 106) hx hb dX5_highest_1 (by decide) (by decide) (by decide) (by decide) ?_
    refine lv_sipush (v := 30000) hx hb dX5_highest_106 (by decide) ?_
    exact greti hx hb hr hlocks hP hD hS (rfl) (rfl) dX5_highest_109
  · refine lv_tableIn (off := 75) (tgt := 76) hx hb dX5_highest_1 (by decide) (by decide) (by decide) (by decide) ?_
    refine lv_sipush (v := 24000) hx hb dX5_highest_76 (by decide) ?_
    exact greti hx hb hr hlocks hP hD hS (rfl) (rfl) dX5_highest_79
  · refine lv_tableIn (off := 101) (tgt := 102) hx hb dX5_highest_1 (by decide) (by decide) (by decide) (by decide) ?_
    refine lv_sipush (v := 1000) hx hb dX5_highest_102 (by decide) ?_
    exact greti hx hb hr hlocks hP hD hS (rfl) (rfl) dX5_highest_105

set_option maxHeartbeats 4000000 in
set_option maxRecDepth 100000 in
theorem c_X5_place (l : Launch) (E : EE) (k0 : Nat) (hk : k0 < 15) : GM l yX5_place wsX5_place 0 0 E ([]) [.int (nI k0)] ([]) (some (.int (nI (placeT k0)))) := by
  intro sz
  refine Met.ofW (cc := cX5_place) (maxL := 1) (ret := (some .int)) (by decide) rfl ?_
  intro p e s m args below meth c s₁ B hml hv
  obtain ⟨rfl, rfl, hP, hK, hD0, hN⟩ := hv
  have hx := B.exec
  have hb := B.bytes
  have hr := B.returns
  have hts := atoms_spec (ws := wsX5_place) B.pre
  have hown : s.vm.findClass RX5 = some m.cls := findClass_of_methodNamed B.named
  have hlocks := B.notSynchronized
  have hD := hD0.self (sz := s.heap.size)
  have hA : ∀ q : Nat, s.heap.size ≤ q → va_A ([]) s.heap.size q := fun q h => Or.inr h
  have hS : va_S (va_A ([]) s.heap.size) s.heap s.heap [] := va_S.rf
  have hl := lv_entry ([.int (nI k0)]) (n := 1) (Nat.le_of_ble_eq_true rfl)
  rw [lg_entry_eq]
  generalize (lg_sl ([.int (nI k0)]) ++ List.replicate (1 - (lg_sl ([.int (nI k0)])).length) Slot.unset).toArray = ls at hl ⊢
  have hl : lv_has ls 1 [(0, .int (nI k0))] := hl
  refine lv_iload_n hx hb dX5_place_0 rfl (lv_at hl 0 rfl) ?_
  obtain rfl | rfl | rfl | rfl | rfl | rfl | rfl | rfl | rfl | rfl | rfl | rfl | rfl | rfl | rfl : k0 = 0 ∨ k0 = 1 ∨ k0 = 2 ∨ k0 = 3 ∨ k0 = 4 ∨ k0 = 5 ∨ k0 = 6 ∨ k0 = 7 ∨ k0 = 8 ∨ k0 = 9 ∨ k0 = 10 ∨ k0 = 11 ∨ k0 = 12 ∨ k0 = 13 ∨ k0 = 14 := by omega
  · refine lv_tableIn (off := 71) (tgt := 72) hx hb dX5_place_1 (by decide) (by decide) (by decide) (by decide) ?_
    refine lv_bipush (v := 20) hx hb dX5_place_72 (by decide) ?_
    exact greti hx hb hr hlocks hP hD hS (rfl) (rfl) dX5_place_74
  · refine lv_tableIn (off := 74) (tgt := 75) hx hb dX5_place_1 (by decide) (by decide) (by decide) (by decide) ?_
    refine lv_bipush (v := 17) hx hb dX5_place_75 (by decide) ?_
    exact greti hx hb hr hlocks hP hD hS (rfl) (rfl) dX5_place_77
  · refine lv_tableIn (off := 77) (tgt := 78) hx hb dX5_place_1 (by decide) (by decide) (by decide) (by decide) ?_
    refine lv_bipush (v := 18) hx hb dX5_place_78 (by decide) ?_
    exact greti hx hb hr hlocks hP hD hS (rfl) (rfl) dX5_place_80
  · refine lv_tableIn (off := 80) (tgt := 81) hx hb dX5_place_1 (by decide) (by decide) (by decide) (by decide) ?_
    refine lv_bipush (v := 16) hx hb dX5_place_81 (by decide) ?_
    exact greti hx hb hr hlocks hP hD hS (rfl) (rfl) dX5_place_83
  · refine lv_tableIn (off := 83) (tgt := 84) hx hb dX5_place_1 (by decide) (by decide) (by decide) (by decide) ?_
    refine lv_bipush (v := 24) hx hb dX5_place_84 (by decide) ?_
    exact greti hx hb hr hlocks hP hD hS (rfl) (rfl) dX5_place_86
  · refine lv_tableIn (off := 86) (tgt := 87) hx hb dX5_place_1 (by decide) (by decide) (by decide) (by decide) ?_
    refine lv_bipush (v := 22) hx hb dX5_place_87 (by decide) ?_
    exact greti hx hb hr hlocks hP hD hS (rfl) (rfl) dX5_place_89
  · refine lv_tableIn (off := 89) (tgt := 90) hx hb dX5_place_1 (by decide) (by decide) (by decide) (by decide) ?_
    refine lv_bipush (v := 19) hx hb dX5_place_90 (by decide) ?_
    exact greti hx hb hr hlocks hP hD hS (rfl) (rfl) dX5_place_92
  · refine lv_tableIn (off := 92) (tgt := 93) hx hb dX5_place_1 (by decide) (by decide) (by decide) (by decide) ?_
    refine lv_bipush (v := 21) hx hb dX5_place_93 (by decide) ?_
    exact greti hx hb hr hlocks hP hD hS (rfl) (rfl) dX5_place_95
  · refine lv_tableIn (off := 95) (tgt := 96) hx hb dX5_place_1 (by decide) (by decide) (by decide) (by decide) ?_
    refine lv_bipush (v := 23) hx hb dX5_place_96 (by decide) ?_
    exact greti hx hb hr hlocks hP hD hS (rfl) (rfl) dX5_place_98
  · refine lv_tableIn (off := 98) (tgt := 99) hx hb dX5_place_1 (by decide) (by decide) (by decide) (by decide) ?_
    refine lv_bipush (v := 25) hx hb dX5_place_99 (by decide) ?_
    exact greti hx hb hr hlocks hP hD hS (rfl) (rfl) dX5_place_101
  · refine lv_tableIn (off := 101) (tgt := 102) hx hb dX5_place_1 (by decide) (by decide) (by decide) (by decide) ?_
    refine lv_bipush (v := 26) hx hb dX5_place_102 (by decide) ?_
    exact greti hx hb hr hlocks hP hD hS (rfl) (rfl) dX5_place_104
  · refine lv_tableIn (off := 104) (tgt := 105) hx hb dX5_place_1 (by decide) (by decide) (by decide) (by decide) ?_
    refine lv_bipush (v := 27) hx hb dX5_place_105 (by decide) ?_
    exact greti hx hb hr hlocks hP hD hS (rfl) (rfl) dX5_place_107
  · refine lv_tableIn (off := 107) (tgt := 108) hx hb dX5_place_1 (by decide) (by decide) (by decide) (by decide) ?_
    refine lv_bipush (v := 28) hx hb dX5_place_108 (by decide) ?_
    exact greti hx hb hr hlocks hP hD hS (rfl) (rfl) dX5_place_110
  · refine lv_tableIn (off := 110) (tgt := 111) hx hb dX5_place_1 (by decide) (by decide) (by decide) (by decide) ?_
    refine lv_bipush (v := 15) hx hb dX5_place_111 (by decide) ?_
    exact greti hx hb hr hlocks hP hD hS (rfl) (rfl) dX5_place_113
  · refine lv_tableOut (tgt := 114) hx hb dX5_place_1 (by decide) (by decide) ?_
    refine lv_bipush (v := 31) hx hb dX5_place_114 (by decide) ?_
    exact greti hx hb hr hlocks hP hD hS (rfl) (rfl) dX5_place_116

set_option maxHeartbeats 4000000 in
set_option maxRecDepth 100000 in
theorem c_X5_slot (l : Launch) (E : EE) (A : Nat → Nat) (G z a t r : Nat → Int32) (h : Int64) (v0 v1 : Int32) (hz : zOK z) : GM l yX5_slot wsX5_slot 3 69 E (wM E A G z a t r h) [.ref (A 0), .int v0, .int v1] (wM E A ((slot v0 v1 z G).2) ((slot v0 v1 z G).1) a t r h) (none) := by
  intro sz
  refine Met.ofW (cc := cX5_slot) (maxL := 4) (ret := none) (by decide) rfl ?_
  intro p e s m args below meth c s₁ B hml hv
  obtain ⟨rfl, rfl, hP, hK, hD0, hN⟩ := hv
  have hx := B.exec
  have hb := B.bytes
  have hr := B.returns
  have hts := atoms_spec (ws := wsX5_slot) B.pre
  have hown : s.vm.findClass RX5 = some m.cls := findClass_of_methodNamed B.named
  have hlocks := B.notSynchronized
  have hD := hD0.self (sz := s.heap.size)
  have hA : ∀ q : Nat, s.heap.size ≤ q → va_A (wM E A G z a t r h) s.heap.size q := fun q h => Or.inr h
  have hS : va_S (va_A (wM E A G z a t r h) s.heap.size) s.heap s.heap [] := va_S.rf
  have hl := lv_entry ([.ref (A 0), .int v0, .int v1]) (n := 4) (Nat.le_of_ble_eq_true rfl)
  rw [lg_entry_eq]
  generalize (lg_sl ([.ref (A 0), .int v0, .int v1]) ++ List.replicate (4 - (lg_sl ([.ref (A 0), .int v0, .int v1])).length) Slot.unset).toArray = ls at hl ⊢
  have hl : lv_has ls 4 [(0, .ref (A 0)), (1, .int v0), (2, .int v1)] := hl
  have hf62 := hts (.fieldLink RX5 62 "PhaseConverterModel" "strongest" "I") (List.mem_of_getElem? (i := 2) rfl)
  have hf69 := hts (.fieldLink RX5 69 "PhaseConverterModel" "least" "I") (List.mem_of_getElem? (i := 4) rfl)
  have hf7 := hts (.fieldLink RX5 7 "PhaseConverterModel" "z" "[I") (List.mem_of_getElem? (i := 1) rfl)
  have hf72 := hts (.fieldLink RX5 72 "PhaseConverterModel" "most" "I") (List.mem_of_getElem? (i := 5) rfl)
  have hiX5 : ∀ w ∈ u_ws RX5 TX5 15, w ∈ wsX5_slot := memIn [33, 34, 35, 36, 37, 38, 39, 40, 41, 42, 43, 44, 45, 46, 47] rfl
  have hn4 := hz.2.2.1
  have hmn := hz.2.2.2.2.2.1
  refine lv_iconst (v := 0) hx hb dX5_slot_0 (by decide) ?_
  refine lv_istore_n (lv' := [(3, .int 0), (0, .ref (A 0)), (1, .int v0), (2, .int v1)]) hx hb dX5_slot_1 rfl hl (by decide) rfl (fun ls hl => ?_)
  have L_2 : ∀ (n i : Nat) (z1 : Nat → Int32) (H : Heap) (locs : List Loc) (ls : Array Slot), (i + n = mOf z) → (zOK z1) → (z1 16 = nI (mOf z)) → (slotA v0 v1 n i z1 = slotA v0 v1 (mOf z) 0 z) → va_P E.1 vwCl (wM E A G z1 a t r h) H → va_D (va_A (wM E A G z a t r h) s.heap.size) (wM E A G z1 a t r h) → va_S (va_A (wM E A G z a t r h) s.heap.size) s.heap H locs → lv_has ls 4 [(3, .int (nI i)), (0, .ref (A 0)), (1, .int v0), (2, .int v1)] → W p l e (gR wsX5_slot 3 69) s m ([.ref (A 0), .int v0, .int v1] : List Value).toArray below meth c H locs 0 0 (gMQ below E s (wM E A G z a t r h) (wM E A ((slot v0 v1 z G).2) ((slot v0 v1 z G).1) a t r h) (none) [.ref (A 0), .int v0, .int v1]) (F0 m 2 ls []) := by
    intro n
    induction n with
    | zero =>
      intro i z1 H locs ls hin h1 h16 hfn hP hD hS hl
      have hf1 : z1 = slotA v0 v1 (mOf z) 0 z := hfn
      have hn1 := h1.2.2.1
      refine lv_iload_n hx hb dX5_slot_2 rfl (lv_at hl 0 rfl) ?_
      refine lv_aload_n hx hb dX5_slot_3 rfl (lv_at hl 1 rfl) ?_
      refine va_get (D := E.1) (ci := 5) (v := .ref (A 1)) (C := RX5) (T := TX5) (N := 15) hx hb hts hiX5 hown hK hP 0 rfl rfl 1 (by decide) hf7 (fun _ h9 => h9) rfl dX5_slot_4 ?_
      refine lv_bipush (v := 16) hx hb dX5_slot_7 (by decide) ?_
      refine gald (x := z1 16) hx hb hK hP 1 rfl 16 (rfl) (by decide) (by decide) rfl dX5_slot_9 ?_
      refine lv_icmp_ge (tgt := 48) hx hb dX5_slot_10 (by decide) (fun c_10 => ?_) (fun c_10 => absurd (by rw [h16]; exact nI_le (by omega) (by omega)) c_10)
      refine lv_iconst (v := 0) hx hb dX5_slot_48 (by decide) ?_
      refine lv_istore_n (lv' := [(3, .int 0), (0, .ref (A 0)), (1, .int v0), (2, .int v1)]) hx hb dX5_slot_49 rfl hl (by decide) rfl (fun ls hl => ?_)
      have L_50 : ∀ (n i : Nat) (z2 : Nat → Int32) (G2 : Nat → Int32) (H : Heap) (locs : List Loc) (ls : Array Slot), (i + n = nOf z1) → (zOK z2) → (z2 15 = nI (nOf z1)) → (slotB n i z2 G2 = slotB (nOf z1) 0 z1 G) → va_P E.1 vwCl (wM E A G2 z2 a t r h) H → va_D (va_A (wM E A G z a t r h) s.heap.size) (wM E A G2 z2 a t r h) → va_S (va_A (wM E A G z a t r h) s.heap.size) s.heap H locs → lv_has ls 4 [(3, .int (nI i)), (0, .ref (A 0)), (1, .int v0), (2, .int v1)] → W p l e (gR wsX5_slot 3 69) s m ([.ref (A 0), .int v0, .int v1] : List Value).toArray below meth c H locs 0 0 (gMQ below E s (wM E A G z a t r h) (wM E A ((slot v0 v1 z G).2) ((slot v0 v1 z G).1) a t r h) (none) [.ref (A 0), .int v0, .int v1]) (F0 m 50 ls []) := by
        intro n
        induction n with
        | zero =>
          intro i z2 G2 H locs ls hin h1b h15 hfn hP hD hS hl
          have hf2 : (z2, G2) = slotB (nOf z1) 0 z1 G := hfn
          have hn2 := h1b.2.2.1
          refine lv_iload_n hx hb dX5_slot_50 rfl (lv_at hl 0 rfl) ?_
          refine lv_aload_n hx hb dX5_slot_51 rfl (lv_at hl 1 rfl) ?_
          refine va_get (D := E.1) (ci := 5) (v := .ref (A 1)) (C := RX5) (T := TX5) (N := 15) hx hb hts hiX5 hown hK hP 0 rfl rfl 1 (by decide) hf7 (fun _ h9 => h9) rfl dX5_slot_52 ?_
          refine lv_bipush (v := 15) hx hb dX5_slot_55 (by decide) ?_
          refine gald (x := z2 15) hx hb hK hP 1 rfl 15 (rfl) (by decide) (by decide) rfl dX5_slot_57 ?_
          refine lv_icmp_ge (tgt := 110) hx hb dX5_slot_58 (by decide) (fun c_58 => ?_) (fun c_58 => absurd (by rw [h15]; exact nI_le (by omega) (by omega)) c_58)
          refine lv_aload_n hx hb dX5_slot_110 rfl (lv_at hl 1 rfl) ?_
          refine va_get (D := E.1) (ci := 5) (v := .ref (A 1)) (C := RX5) (T := TX5) (N := 15) hx hb hts hiX5 hown hK hP 0 rfl rfl 1 (by decide) hf7 (fun _ h9 => h9) rfl dX5_slot_111 ?_
          refine lv_bipush (v := 17) hx hb dX5_slot_114 (by decide) ?_
          refine lv_aload_n hx hb dX5_slot_116 rfl (lv_at hl 1 rfl) ?_
          refine va_get (D := E.1) (ci := 5) (v := .ref (A 1)) (C := RX5) (T := TX5) (N := 15) hx hb hts hiX5 hown hK hP 0 rfl rfl 1 (by decide) hf7 (fun _ h9 => h9) rfl dX5_slot_117 ?_
          refine lv_bipush (v := 17) hx hb dX5_slot_120 (by decide) ?_
          refine gald (x := z2 17) hx hb hK hP 1 rfl 17 (rfl) (by decide) (by decide) rfl dX5_slot_122 ?_
          refine lv_aload_n hx hb dX5_slot_123 rfl (lv_at hl 1 rfl) ?_
          refine lv_aload_n hx hb dX5_slot_124 rfl (lv_at hl 1 rfl) ?_
          refine va_get (D := E.1) (ci := 5) (v := .ref (A 1)) (C := RX5) (T := TX5) (N := 15) hx hb hts hiX5 hown hK hP 0 rfl rfl 1 (by decide) hf7 (fun _ h9 => h9) rfl dX5_slot_125 ?_
          refine lv_bipush (v := 15) hx hb dX5_slot_128 (by decide) ?_
          refine gald (x := z2 15) hx hb hK hP 1 rfl 15 (rfl) (by decide) (by decide) rfl dX5_slot_130 ?_
          refine W.eq (g2 := F0 m 131 ls [.int (nI (nOf z2)), .ref (A 0), .int (z2 17), .int 17, .ref (A 1)]) (by rw [h1b.1]) ?_
          refine gv0i (As := [.int (nI (nOf z2))]) (rest := [.int (z2 17), .int 17, .ref (A 1)]) ⟨hx, hb, hml, hown, hts⟩ (c_X5_sum l E A G2 z2 a t r h (nOf z2) (by omega)) (cwV 1 hts gX5_slot_X5_sum rfl rfl rfl (by decide +kernel) ⟨Nat.le_of_ble_eq_true rfl, Nat.le_of_ble_eq_true rfl⟩) (va_recv hK hP (ci := 5) (q0 := 0) rfl rfl) hP hK hD hN hS hA rfl hl.1 rfl (Nat.le_of_ble_eq_true rfl) dX5_slot_131 ⟨Nat.le_refl _, Nat.le_refl _⟩ (fun H locs hP hD hS => ?_)
          refine lv_aload_n hx hb dX5_slot_134 rfl (lv_at hl 1 rfl) ?_
          refine va_get (D := E.1) (ci := 5) (v := .ref (A 1)) (C := RX5) (T := TX5) (N := 15) hx hb hts hiX5 hown hK hP 0 rfl rfl 1 (by decide) hf7 (fun _ h9 => h9) rfl dX5_slot_135 ?_
          refine lv_iconst (v := 2) hx hb dX5_slot_138 (by decide) ?_
          refine gald (x := z2 2) hx hb hK hP 1 rfl 2 (rfl) (by decide) (by decide) rfl dX5_slot_139 ?_
          refine lv_isub hx hb dX5_slot_140 ?_
          refine lv_aload_n hx hb dX5_slot_141 rfl (lv_at hl 1 rfl) ?_
          refine va_get (D := E.1) (ci := 5) (v := .ref (A 1)) (C := RX5) (T := TX5) (N := 15) hx hb hts hiX5 hown hK hP 0 rfl rfl 1 (by decide) hf7 (fun _ h9 => h9) rfl dX5_slot_142 ?_
          refine lv_iconst (v := 4) hx hb dX5_slot_145 (by decide) ?_
          refine gald (x := z2 4) hx hb hK hP 1 rfl 4 (rfl) (by decide) (by decide) rfl dX5_slot_146 ?_
          refine lv_idiv hx hb dX5_slot_147 h1b.2.2.2.2.2.2.2.2 ?_
          refine lv_iadd hx hb dX5_slot_148 ?_
          refine lv_iconst (v := 0) hx hb dX5_slot_149 (by decide) ?_
          refine lv_ldc (own := RX5) (v := 40000) hx hb hown (hts (.constant RX5 65 (40000)) (List.mem_of_getElem? (i := 3) rfl)) dX5_slot_150 ?_
          refine gsPi (As := [.int ((z2 17) + (((sumC (nOf z2) z2) - (z2 2)) / (z2 4))), .int 0, .int 40000]) (rest := [.int 17, .ref (A 1)]) ⟨hx, hb, hml, hown, hts⟩ (c_X5_clamped l E ((z2 17) + (((sumC (nOf z2) z2) - (z2 2)) / (z2 4))) 0 40000) (va_cwS 3 hts gX5_slot_X5_clamped rfl rfl rfl (by decide +kernel) ⟨Nat.le_of_ble_eq_true rfl, Nat.le_of_ble_eq_true rfl⟩) hP hK hD hN hS hA rfl hl.1 rfl (Nat.le_of_ble_eq_true rfl) dX5_slot_152 ⟨Nat.le_refl _, Nat.le_refl _⟩ (fun H locs hP hD hS => ?_)
          refine gast hx hb hK hP hD hS 1 rfl 17 (rfl) (by decide) (by decide) dX5_slot_155 (fun H locs hP hD hS => ?_)
          have hP : va_P E.1 vwCl (wM E A G2 (upd z2 17 (clampI ((z2 17) + (((sumC (nOf z2) z2) - (z2 2)) / (z2 4))) 0 40000)) a t r h) H := hP
          have hD : va_D _ (wM E A G2 (upd z2 17 (clampI ((z2 17) + (((sumC (nOf z2) z2) - (z2 2)) / (z2 4))) 0 40000)) a t r h) := hD
          refine lv_aload_n hx hb dX5_slot_156 rfl (lv_at hl 1 rfl) ?_
          refine gv0i (As := []) (rest := []) ⟨hx, hb, hml, hown, hts⟩ (c_X5_runs l E A G2 (upd z2 17 (clampI ((z2 17) + (((sumC (nOf z2) z2) - (z2 2)) / (z2 4))) 0 40000)) a t r h) (cwV 0 hts gX5_slot_X5_runs rfl rfl rfl (by decide +kernel) ⟨Nat.le_of_ble_eq_true rfl, Nat.le_of_ble_eq_true rfl⟩) (va_recv hK hP (ci := 5) (q0 := 0) rfl rfl) hP hK hD hN hS hA rfl hl.1 rfl (Nat.le_of_ble_eq_true rfl) dX5_slot_157 ⟨Nat.le_refl _, Nat.le_refl _⟩ (fun H locs hP hD hS => ?_)
          obtain ⟨z_1, ez_1⟩ : ∃ y : Nat → Int32, y = (if (runsI (upd z2 17 (clampI ((z2 17) + (((sumC (nOf z2) z2) - (z2 2)) / (z2 4))) 0 40000))) = 0 then (upd z2 17 (clampI ((z2 17) + (((sumC (nOf z2) z2) - (z2 2)) / (z2 4))) 0 40000)) else (if (clampI ((z2 17) + (((sumC (nOf z2) z2) - (z2 2)) / (z2 4))) 0 40000) ≤ (z2 12) then (upd z2 17 (clampI ((z2 17) + (((sumC (nOf z2) z2) - (z2 2)) / (z2 4))) 0 40000)) else stopTo 3 (upd z2 17 (clampI ((z2 17) + (((sumC (nOf z2) z2) - (z2 2)) / (z2 4))) 0 40000)))) := ⟨_, rfl⟩
          have fzd : z_1 = slotD (slotC z2) := ez_1
          have J_160 : ∀ (H : Heap) (locs : List Loc) (ls : Array Slot), va_P E.1 vwCl (wM E A G2 z_1 a t r h) H → va_D (va_A (wM E A G z a t r h) s.heap.size) (wM E A G2 z_1 a t r h) → va_S (va_A (wM E A G z a t r h) s.heap.size) s.heap H locs → lv_has ls 4 [(3, .int (nI i)), (0, .ref (A 0)), (1, .int v0), (2, .int v1)] → W p l e (gR wsX5_slot 3 69) s m ([.ref (A 0), .int v0, .int v1] : List Value).toArray below meth c H locs 0 0 (gMQ below E s (wM E A G z a t r h) (wM E A ((slot v0 v1 z G).2) ((slot v0 v1 z G).1) a t r h) (none) [.ref (A 0), .int v0, .int v1]) (F0 m 185 ls []) := by
            intro H locs ls hP hD hS hl
            refine lv_aload_n hx hb dX5_slot_185 rfl (lv_at hl 1 rfl) ?_
            refine lv_aload_n hx hb dX5_slot_186 rfl (lv_at hl 1 rfl) ?_
            refine va_get (D := E.1) (ci := 5) (v := .ref (A 1)) (C := RX5) (T := TX5) (N := 15) hx hb hts hiX5 hown hK hP 0 rfl rfl 1 (by decide) hf7 (fun _ h9 => h9) rfl dX5_slot_187 ?_
            refine lv_bipush (v := 17) hx hb dX5_slot_190 (by decide) ?_
            refine gald (x := z_1 17) hx hb hK hP 1 rfl 17 (rfl) (by decide) (by decide) rfl dX5_slot_192 ?_
            refine lv_aload_n hx hb dX5_slot_193 rfl (lv_at hl 1 rfl) ?_
            refine va_get (D := E.1) (ci := 5) (v := .int (G2 5)) (C := RX5) (T := TX5) (N := 15) hx hb hts hiX5 hown hK hP 0 rfl rfl 5 (by decide) hf69 (fun _ h9 => h9) rfl dX5_slot_194 ?_
            obtain ⟨x_2, ex_2⟩ : ∃ y : Int32, y = (if (G2 5) ≤ (z_1 17) then G2 5 else z_1 17) := ⟨_, rfl⟩
            have fx5 : x_2 = (if G2 5 ≤ slotD (slotC z2) 17 then G2 5 else slotD (slotC z2) 17) := by rw [← fzd]; exact ex_2
            have J_197 : ∀ (H : Heap) (locs : List Loc) (ls : Array Slot), va_P E.1 vwCl (wM E A G2 z_1 a t r h) H → va_D (va_A (wM E A G z a t r h) s.heap.size) (wM E A G2 z_1 a t r h) → va_S (va_A (wM E A G z a t r h) s.heap.size) s.heap H locs → lv_has ls 4 [(3, .int (nI i)), (0, .ref (A 0)), (1, .int v0), (2, .int v1)] → W p l e (gR wsX5_slot 3 69) s m ([.ref (A 0), .int v0, .int v1] : List Value).toArray below meth c H locs 0 0 (gMQ below E s (wM E A G z a t r h) (wM E A ((slot v0 v1 z G).2) ((slot v0 v1 z G).1) a t r h) (none) [.ref (A 0), .int v0, .int v1]) (F0 m 214 ls [.int x_2, .ref (A 0)]) := by
              intro H locs ls hP hD hS hl
              refine va_put (D := E.1) (ci := 5) (v := .int x_2) (ty := .int) (C := RX5) (T := TX5) (N := 15) hx hb hts hiX5 tyX5 tyX5_ok nmX5 hown hK hP hD hS 0 rfl rfl 5 (by decide) hf69 (fun _ h9 => h9) rfl (by decide +kernel) rfl rfl (Nat.le_of_ble_eq_true rfl) dX5_slot_214 (fun H locs hP hD hS => ?_)
              have hP : va_P E.1 vwCl (wM E A (upd G2 5 x_2) z_1 a t r h) H := hP
              have hD : va_D _ (wM E A (upd G2 5 x_2) z_1 a t r h) := hD
              refine lv_aload_n hx hb dX5_slot_217 rfl (lv_at hl 1 rfl) ?_
              refine lv_aload_n hx hb dX5_slot_218 rfl (lv_at hl 1 rfl) ?_
              refine va_get (D := E.1) (ci := 5) (v := .ref (A 1)) (C := RX5) (T := TX5) (N := 15) hx hb hts hiX5 hown hK hP 0 rfl rfl 1 (by decide) hf7 (fun _ h9 => h9) rfl dX5_slot_219 ?_
              refine lv_bipush (v := 17) hx hb dX5_slot_222 (by decide) ?_
              refine gald (x := z_1 17) hx hb hK hP 1 rfl 17 (rfl) (by decide) (by decide) rfl dX5_slot_224 ?_
              refine lv_aload_n hx hb dX5_slot_225 rfl (lv_at hl 1 rfl) ?_
              refine va_get (D := E.1) (ci := 5) (v := .int (G2 6)) (C := RX5) (T := TX5) (N := 15) hx hb hts hiX5 hown hK hP 0 rfl rfl 6 (by decide) hf72 (fun _ h9 => h9) rfl dX5_slot_226 ?_
              refine lv_icmp_le (tgt := 242) hx hb dX5_slot_229 (by decide) (fun c_229 => ?_) (fun c_229 => ?_)
              · refine lv_aload_n hx hb dX5_slot_242 rfl (lv_at hl 1 rfl) ?_
                refine va_get (D := E.1) (ci := 5) (v := .int (G2 6)) (C := RX5) (T := TX5) (N := 15) hx hb hts hiX5 hown hK hP 0 rfl rfl 6 (by decide) hf72 (fun _ h9 => h9) rfl dX5_slot_243 ?_
                refine va_put (D := E.1) (ci := 5) (v := .int (G2 6)) (ty := .int) (C := RX5) (T := TX5) (N := 15) hx hb hts hiX5 tyX5 tyX5_ok nmX5 hown hK hP hD hS 0 rfl rfl 6 (by decide) hf72 (fun _ h9 => h9) rfl (by decide +kernel) rfl rfl (Nat.le_of_ble_eq_true rfl) dX5_slot_246 (fun H locs hP hD hS => ?_)
                have hP : va_P E.1 vwCl (wM E A (upd (upd G2 5 x_2) 6 (G2 6)) z_1 a t r h) H := hP
                have hD : va_D _ (wM E A (upd (upd G2 5 x_2) 6 (G2 6)) z_1 a t r h) := hD
                exact gretv hx hb hr hlocks hP hD hS (by rw [slot_eq hf1 hf2]; simp only [slotE, slotG, ← fzd, if_pos c_10, if_pos c_58, if_pos c_229]; rw [fx5, ← fzd]) dX5_slot_249
              · refine lv_aload_n hx hb dX5_slot_232 rfl (lv_at hl 1 rfl) ?_
                refine va_get (D := E.1) (ci := 5) (v := .ref (A 1)) (C := RX5) (T := TX5) (N := 15) hx hb hts hiX5 hown hK hP 0 rfl rfl 1 (by decide) hf7 (fun _ h9 => h9) rfl dX5_slot_233 ?_
                refine lv_bipush (v := 17) hx hb dX5_slot_236 (by decide) ?_
                refine gald (x := z_1 17) hx hb hK hP 1 rfl 17 (rfl) (by decide) (by decide) rfl dX5_slot_238 ?_
                refine lv_goto (tgt := 246) hx hb dX5_slot_239 (by decide) ?_
                refine va_put (D := E.1) (ci := 5) (v := .int (z_1 17)) (ty := .int) (C := RX5) (T := TX5) (N := 15) hx hb hts hiX5 tyX5 tyX5_ok nmX5 hown hK hP hD hS 0 rfl rfl 6 (by decide) hf72 (fun _ h9 => h9) rfl (by decide +kernel) rfl rfl (Nat.le_of_ble_eq_true rfl) dX5_slot_246 (fun H locs hP hD hS => ?_)
                have hP : va_P E.1 vwCl (wM E A (upd (upd G2 5 x_2) 6 (z_1 17)) z_1 a t r h) H := hP
                have hD : va_D _ (wM E A (upd (upd G2 5 x_2) 6 (z_1 17)) z_1 a t r h) := hD
                exact gretv hx hb hr hlocks hP hD hS (by rw [slot_eq hf1 hf2]; simp only [slotE, slotG, ← fzd, if_pos c_10, if_pos c_58, if_neg c_229]; rw [fx5, ← fzd]) dX5_slot_249
            refine lv_icmp_ge (tgt := 210) hx hb dX5_slot_197 (by decide) (fun c_197 => ?_) (fun c_197 => ?_)
            · refine lv_aload_n hx hb dX5_slot_210 rfl (lv_at hl 1 rfl) ?_
              refine va_get (D := E.1) (ci := 5) (v := .int (G2 5)) (C := RX5) (T := TX5) (N := 15) hx hb hts hiX5 hown hK hP 0 rfl rfl 5 (by decide) hf69 (fun _ h9 => h9) rfl dX5_slot_211 ?_
              refine W.eq (g2 := F0 m 214 ls [.int x_2, .ref (A 0)]) (by rw [ex_2]; simp only [if_pos c_197]) ?_
              exact J_197 H locs ls (hP) (hD) hS (lv_sub hl [0, 1, 2, 3] rfl)
            · refine lv_aload_n hx hb dX5_slot_200 rfl (lv_at hl 1 rfl) ?_
              refine va_get (D := E.1) (ci := 5) (v := .ref (A 1)) (C := RX5) (T := TX5) (N := 15) hx hb hts hiX5 hown hK hP 0 rfl rfl 1 (by decide) hf7 (fun _ h9 => h9) rfl dX5_slot_201 ?_
              refine lv_bipush (v := 17) hx hb dX5_slot_204 (by decide) ?_
              refine gald (x := z_1 17) hx hb hK hP 1 rfl 17 (rfl) (by decide) (by decide) rfl dX5_slot_206 ?_
              refine lv_goto (tgt := 214) hx hb dX5_slot_207 (by decide) ?_
              refine W.eq (g2 := F0 m 214 ls [.int x_2, .ref (A 0)]) (by rw [ex_2]; simp only [if_neg c_197]) ?_
              exact J_197 H locs ls (hP) (hD) hS (lv_sub hl [0, 1, 2, 3] rfl)
          refine lv_if_eq (tgt := 185) hx hb dX5_slot_160 (by decide) (fun c_160 => ?_) (fun c_160 => ?_)
          · exact J_160 H locs ls (by rw [ez_1]; simp only [if_pos c_160]; exact hP) (by rw [ez_1]; simp only [if_pos c_160]; exact hD) hS (lv_sub hl [0, 1, 2, 3] rfl)
          · refine lv_aload_n hx hb dX5_slot_163 rfl (lv_at hl 1 rfl) ?_
            refine va_get (D := E.1) (ci := 5) (v := .ref (A 1)) (C := RX5) (T := TX5) (N := 15) hx hb hts hiX5 hown hK hP 0 rfl rfl 1 (by decide) hf7 (fun _ h9 => h9) rfl dX5_slot_164 ?_
            refine lv_bipush (v := 17) hx hb dX5_slot_167 (by decide) ?_
            refine gald (x := clampI ((z2 17) + (((sumC (nOf z2) z2) - (z2 2)) / (z2 4))) 0 40000) hx hb hK hP 1 rfl 17 (rfl) (by decide) (by decide) rfl dX5_slot_169 ?_
            refine lv_aload_n hx hb dX5_slot_170 rfl (lv_at hl 1 rfl) ?_
            refine va_get (D := E.1) (ci := 5) (v := .ref (A 1)) (C := RX5) (T := TX5) (N := 15) hx hb hts hiX5 hown hK hP 0 rfl rfl 1 (by decide) hf7 (fun _ h9 => h9) rfl dX5_slot_171 ?_
            refine lv_bipush (v := 12) hx hb dX5_slot_174 (by decide) ?_
            refine gald (x := z2 12) hx hb hK hP 1 rfl 12 (rfl) (by decide) (by decide) rfl dX5_slot_176 ?_
            refine lv_icmp_le (tgt := 185) hx hb dX5_slot_177 (by decide) (fun c_177 => ?_) (fun c_177 => ?_)
            · exact J_160 H locs ls (by rw [ez_1]; simp only [if_neg c_160, if_pos c_177]; exact hP) (by rw [ez_1]; simp only [if_neg c_160, if_pos c_177]; exact hD) hS (lv_sub hl [0, 1, 2, 3] rfl)
            · refine lv_aload_n hx hb dX5_slot_180 rfl (lv_at hl 1 rfl) ?_
              refine lv_iconst (v := 3) hx hb dX5_slot_181 (by decide) ?_
              refine gv0v (As := [.int 3]) (rest := []) ⟨hx, hb, hml, hown, hts⟩ (c_X5_stopTo l E A G2 (upd z2 17 (clampI ((z2 17) + (((sumC (nOf z2) z2) - (z2 2)) / (z2 4))) 0 40000)) a t r h 3 (slotC_OK h1b)) (cwV 1 hts gX5_slot_X5_stopTo rfl rfl rfl (by decide +kernel) ⟨Nat.le_of_ble_eq_true rfl, Nat.le_of_ble_eq_true rfl⟩) (va_recv hK hP (ci := 5) (q0 := 0) rfl rfl) hP hK hD hN hS hA rfl hl.1 rfl (Nat.le_of_ble_eq_true rfl) dX5_slot_182 ⟨Nat.le_refl _, Nat.le_refl _⟩ (fun H locs hP hD hS => ?_)
              have hP : va_P E.1 vwCl (wM E A G2 (stopTo 3 (upd z2 17 (clampI ((z2 17) + (((sumC (nOf z2) z2) - (z2 2)) / (z2 4))) 0 40000))) a t r h) H := hP
              have hD : va_D _ (wM E A G2 (stopTo 3 (upd z2 17 (clampI ((z2 17) + (((sumC (nOf z2) z2) - (z2 2)) / (z2 4))) 0 40000))) a t r h) := hD
              exact J_160 H locs ls (by rw [ez_1]; simp only [if_neg c_160, if_neg c_177]; exact hP) (by rw [ez_1]; simp only [if_neg c_160, if_neg c_177]; exact hD) hS (lv_sub hl [0, 1, 2, 3] rfl)
        | succ n ih =>
          intro i z2 G2 H locs ls hin h1b h15 hfn hP hD hS hl
          refine lv_iload_n hx hb dX5_slot_50 rfl (lv_at hl 0 rfl) ?_
          refine lv_aload_n hx hb dX5_slot_51 rfl (lv_at hl 1 rfl) ?_
          refine va_get (D := E.1) (ci := 5) (v := .ref (A 1)) (C := RX5) (T := TX5) (N := 15) hx hb hts hiX5 hown hK hP 0 rfl rfl 1 (by decide) hf7 (fun _ h9 => h9) rfl dX5_slot_52 ?_
          refine lv_bipush (v := 15) hx hb dX5_slot_55 (by decide) ?_
          refine gald (x := z2 15) hx hb hK hP 1 rfl 15 (rfl) (by decide) (by decide) rfl dX5_slot_57 ?_
          refine lv_icmp_ge (tgt := 110) hx hb dX5_slot_58 (by decide) (fun c_58 => absurd c_58 (by rw [h15]; exact nI_ge (by omega) (by omega))) (fun c_58 => ?_)
          refine lv_aload_n hx hb dX5_slot_61 rfl (lv_at hl 1 rfl) ?_
          refine lv_iload_n hx hb dX5_slot_62 rfl (lv_at hl 0 rfl) ?_
          refine gv0v (As := [.int (nI i)]) (rest := []) ⟨hx, hb, hml, hown, hts⟩ (c_X5_step l E A G2 z2 a t r h i h1b (by omega)) (cwV 1 hts gX5_slot_X5_step rfl rfl rfl (by decide +kernel) ⟨Nat.le_of_ble_eq_true rfl, Nat.le_of_ble_eq_true rfl⟩) (va_recv hK hP (ci := 5) (q0 := 0) rfl rfl) hP hK hD hN hS hA rfl hl.1 rfl (Nat.le_of_ble_eq_true rfl) dX5_slot_63 ⟨Nat.le_refl _, Nat.le_refl _⟩ (fun H locs hP hD hS => ?_)
          have hP : va_P E.1 vwCl (wM E A G2 (step i z2) a t r h) H := hP
          have hD : va_D _ (wM E A G2 (step i z2) a t r h) := hD
          refine lv_aload_n hx hb dX5_slot_66 rfl (lv_at hl 1 rfl) ?_
          refine lv_aload_n hx hb dX5_slot_67 rfl (lv_at hl 1 rfl) ?_
          refine va_get (D := E.1) (ci := 5) (v := .ref (A 1)) (C := RX5) (T := TX5) (N := 15) hx hb hts hiX5 hown hK hP 0 rfl rfl 1 (by decide) hf7 (fun _ h9 => h9) rfl dX5_slot_68 ?_
          refine lv_iload_n hx hb dX5_slot_71 rfl (lv_at hl 0 rfl) ?_
          refine lv_iconst (v := 0) hx hb dX5_slot_72 (by decide) ?_
          refine gsPi (As := [.int (nI i), .int 0]) (rest := [.ref (A 1), .ref (A 0)]) ⟨hx, hb, hml, hown, hts⟩ (c_X5_at l E i 0) (va_cwS 2 hts gX5_slot_X5_at rfl rfl rfl (by decide +kernel) ⟨Nat.le_of_ble_eq_true rfl, Nat.le_of_ble_eq_true rfl⟩) hP hK hD hN hS hA rfl hl.1 rfl (Nat.le_of_ble_eq_true rfl) dX5_slot_73 ⟨Nat.le_refl _, Nat.le_refl _⟩ (fun H locs hP hD hS => ?_)
          refine gald (x := (step i z2) (35 + 7 * i + 0)) hx hb hK hP 1 rfl (35 + 7 * i + 0) (rfl) (by omega) (by decide) rfl dX5_slot_76 ?_
          refine lv_aload_n hx hb dX5_slot_77 rfl (lv_at hl 1 rfl) ?_
          refine va_get (D := E.1) (ci := 5) (v := .int (G2 7)) (C := RX5) (T := TX5) (N := 15) hx hb hts hiX5 hown hK hP 0 rfl rfl 7 (by decide) hf62 (fun _ h9 => h9) rfl dX5_slot_78 ?_
          obtain ⟨x_3, ex_3⟩ : ∃ y : Int32, y = (if ((step i z2) (35 + 7 * i + 0)) ≤ (G2 7) then G2 7 else (step i z2) (35 + 7 * i + 0)) := ⟨_, rfl⟩
          have fx7 : x_3 = sgI i z2 G2 := ex_3
          have J_81 : ∀ (H : Heap) (locs : List Loc) (ls : Array Slot), va_P E.1 vwCl (wM E A G2 (step i z2) a t r h) H → va_D (va_A (wM E A G z a t r h) s.heap.size) (wM E A G2 (step i z2) a t r h) → va_S (va_A (wM E A G z a t r h) s.heap.size) s.heap H locs → lv_has ls 4 [(3, .int (nI i)), (0, .ref (A 0)), (1, .int v0), (2, .int v1)] → W p l e (gR wsX5_slot 3 69) s m ([.ref (A 0), .int v0, .int v1] : List Value).toArray below meth c H locs 0 0 (gMQ below E s (wM E A G z a t r h) (wM E A ((slot v0 v1 z G).2) ((slot v0 v1 z G).1) a t r h) (none) [.ref (A 0), .int v0, .int v1]) (F0 m 101 ls [.int x_3, .ref (A 0)]) := by
            intro H locs ls hP hD hS hl
            refine va_put (D := E.1) (ci := 5) (v := .int x_3) (ty := .int) (C := RX5) (T := TX5) (N := 15) hx hb hts hiX5 tyX5 tyX5_ok nmX5 hown hK hP hD hS 0 rfl rfl 7 (by decide) hf62 (fun _ h9 => h9) rfl (by decide +kernel) rfl rfl (Nat.le_of_ble_eq_true rfl) dX5_slot_101 (fun H locs hP hD hS => ?_)
            have hP : va_P E.1 vwCl (wM E A (upd G2 7 x_3) (step i z2) a t r h) H := hP
            have hD : va_D _ (wM E A (upd G2 7 x_3) (step i z2) a t r h) := hD
            refine lv_iinc (v := nI (i + 1)) (lv' := [(3, .int (nI (i + 1))), (0, .ref (A 0)), (1, .int v0), (2, .int v1)]) hx hb dX5_slot_104 hl (k := 0) rfl (nI_1 _) (by decide) rfl (fun ls hl => ?_)
            refine lv_goto (tgt := 50) hx hb dX5_slot_107 (by decide) ?_
            exact ih (i + 1) (step i z2) (upd G2 7 x_3) H locs ls (by omega) (step_OK h1b) (by rw [step_lt (by omega) (by omega)]; exact h15) (by rw [fx7]; exact hfn) hP hD hS (lv_sub hl [0, 1, 2, 3] rfl)
          refine lv_icmp_le (tgt := 97) hx hb dX5_slot_81 (by decide) (fun c_81 => ?_) (fun c_81 => ?_)
          · refine lv_aload_n hx hb dX5_slot_97 rfl (lv_at hl 1 rfl) ?_
            refine va_get (D := E.1) (ci := 5) (v := .int (G2 7)) (C := RX5) (T := TX5) (N := 15) hx hb hts hiX5 hown hK hP 0 rfl rfl 7 (by decide) hf62 (fun _ h9 => h9) rfl dX5_slot_98 ?_
            refine W.eq (g2 := F0 m 101 ls [.int x_3, .ref (A 0)]) (by rw [ex_3]; simp only [if_pos c_81]) ?_
            exact J_81 H locs ls (hP) (hD) hS (lv_sub hl [0, 1, 2, 3] rfl)
          · refine lv_aload_n hx hb dX5_slot_84 rfl (lv_at hl 1 rfl) ?_
            refine va_get (D := E.1) (ci := 5) (v := .ref (A 1)) (C := RX5) (T := TX5) (N := 15) hx hb hts hiX5 hown hK hP 0 rfl rfl 1 (by decide) hf7 (fun _ h9 => h9) rfl dX5_slot_85 ?_
            refine lv_iload_n hx hb dX5_slot_88 rfl (lv_at hl 0 rfl) ?_
            refine lv_iconst (v := 0) hx hb dX5_slot_89 (by decide) ?_
            refine gsPi (As := [.int (nI i), .int 0]) (rest := [.ref (A 1), .ref (A 0)]) ⟨hx, hb, hml, hown, hts⟩ (c_X5_at l E i 0) (va_cwS 2 hts gX5_slot_X5_at rfl rfl rfl (by decide +kernel) ⟨Nat.le_of_ble_eq_true rfl, Nat.le_of_ble_eq_true rfl⟩) hP hK hD hN hS hA rfl hl.1 rfl (Nat.le_of_ble_eq_true rfl) dX5_slot_90 ⟨Nat.le_refl _, Nat.le_refl _⟩ (fun H locs hP hD hS => ?_)
            refine gald (x := (step i z2) (35 + 7 * i + 0)) hx hb hK hP 1 rfl (35 + 7 * i + 0) (rfl) (by omega) (by decide) rfl dX5_slot_93 ?_
            refine lv_goto (tgt := 101) hx hb dX5_slot_94 (by decide) ?_
            refine W.eq (g2 := F0 m 101 ls [.int x_3, .ref (A 0)]) (by rw [ex_3]; simp only [if_neg c_81]) ?_
            exact J_81 H locs ls (hP) (hD) hS (lv_sub hl [0, 1, 2, 3] rfl)
      exact L_50 (nOf z1) (0) z1 G H locs ls (by omega) (h1) (h1.1) rfl hP hD hS (lv_sub hl [0, 1, 2, 3] rfl)
    | succ n ih =>
      intro i z1 H locs ls hin h1 h16 hfn hP hD hS hl
      refine lv_iload_n hx hb dX5_slot_2 rfl (lv_at hl 0 rfl) ?_
      refine lv_aload_n hx hb dX5_slot_3 rfl (lv_at hl 1 rfl) ?_
      refine va_get (D := E.1) (ci := 5) (v := .ref (A 1)) (C := RX5) (T := TX5) (N := 15) hx hb hts hiX5 hown hK hP 0 rfl rfl 1 (by decide) hf7 (fun _ h9 => h9) rfl dX5_slot_4 ?_
      refine lv_bipush (v := 16) hx hb dX5_slot_7 (by decide) ?_
      refine gald (x := z1 16) hx hb hK hP 1 rfl 16 (rfl) (by decide) (by decide) rfl dX5_slot_9 ?_
      refine lv_icmp_ge (tgt := 48) hx hb dX5_slot_10 (by decide) (fun c_10 => absurd c_10 (by rw [h16]; exact nI_ge (by omega) (by omega))) (fun c_10 => ?_)
      refine lv_aload_n hx hb dX5_slot_13 rfl (lv_at hl 1 rfl) ?_
      refine gv0i (As := []) (rest := []) ⟨hx, hb, hml, hown, hts⟩ (c_X5_runs l E A G z1 a t r h) (cwV 0 hts gX5_slot_X5_runs rfl rfl rfl (by decide +kernel) ⟨Nat.le_of_ble_eq_true rfl, Nat.le_of_ble_eq_true rfl⟩) (va_recv hK hP (ci := 5) (q0 := 0) rfl rfl) hP hK hD hN hS hA rfl hl.1 rfl (Nat.le_of_ble_eq_true rfl) dX5_slot_14 ⟨Nat.le_refl _, Nat.le_refl _⟩ (fun H locs hP hD hS => ?_)
      obtain ⟨z_4, ez_4⟩ : ∃ y : Nat → Int32, y = (if (runsI z1) = 0 then z1 else (if v0 = ((20 * (nI i)) / (z1 16)) then beginP i v1 z1 else z1)) := ⟨_, rfl⟩
      have fzb : z_4 = sbp v0 v1 i z1 := ez_4
      have J_17 : ∀ (H : Heap) (locs : List Loc) (ls : Array Slot), va_P E.1 vwCl (wM E A G z_4 a t r h) H → va_D (va_A (wM E A G z a t r h) s.heap.size) (wM E A G z_4 a t r h) → va_S (va_A (wM E A G z a t r h) s.heap.size) s.heap H locs → lv_has ls 4 [(3, .int (nI i)), (0, .ref (A 0)), (1, .int v0), (2, .int v1)] → W p l e (gR wsX5_slot 3 69) s m ([.ref (A 0), .int v0, .int v1] : List Value).toArray below meth c H locs 0 0 (gMQ below E s (wM E A G z a t r h) (wM E A ((slot v0 v1 z G).2) ((slot v0 v1 z G).1) a t r h) (none) [.ref (A 0), .int v0, .int v1]) (F0 m 42 ls []) := by
        intro H locs ls hP hD hS hl
        refine lv_iinc (v := nI (i + 1)) (lv' := [(3, .int (nI (i + 1))), (0, .ref (A 0)), (1, .int v0), (2, .int v1)]) hx hb dX5_slot_42 hl (k := 0) rfl (nI_1 _) (by decide) rfl (fun ls hl => ?_)
        refine lv_goto (tgt := 2) hx hb dX5_slot_45 (by decide) ?_
        exact ih (i + 1) z_4 H locs ls (by omega) (by rw [fzb]; exact sbp_OK h1) (by rw [fzb, sbp_lt (by omega) (by omega)]; exact h16) (by rw [fzb]; exact hfn) hP hD hS (lv_sub hl [0, 1, 2, 3] rfl)
      refine lv_if_eq (tgt := 42) hx hb dX5_slot_17 (by decide) (fun c_17 => ?_) (fun c_17 => ?_)
      · exact J_17 H locs ls (by rw [ez_4]; simp only [if_pos c_17]; exact hP) (by rw [ez_4]; simp only [if_pos c_17]; exact hD) hS (lv_sub hl [0, 1, 2, 3] rfl)
      · refine lv_iload_n hx hb dX5_slot_20 rfl (lv_at hl 2 rfl) ?_
        refine lv_bipush (v := 20) hx hb dX5_slot_21 (by decide) ?_
        refine lv_iload_n hx hb dX5_slot_23 rfl (lv_at hl 0 rfl) ?_
        refine lv_imul hx hb dX5_slot_24 ?_
        refine lv_aload_n hx hb dX5_slot_25 rfl (lv_at hl 1 rfl) ?_
        refine va_get (D := E.1) (ci := 5) (v := .ref (A 1)) (C := RX5) (T := TX5) (N := 15) hx hb hts hiX5 hown hK hP 0 rfl rfl 1 (by decide) hf7 (fun _ h9 => h9) rfl dX5_slot_26 ?_
        refine lv_bipush (v := 16) hx hb dX5_slot_29 (by decide) ?_
        refine gald (x := z1 16) hx hb hK hP 1 rfl 16 (rfl) (by decide) (by decide) rfl dX5_slot_31 ?_
        refine lv_idiv hx hb dX5_slot_32 (zOK_m0 h1) ?_
        refine lv_icmp_ne (tgt := 42) hx hb dX5_slot_33 (by decide) (fun c_33 => ?_) (fun c_33 => ?_)
        · exact J_17 H locs ls (by rw [ez_4]; simp only [if_neg c_17, if_neg c_33]; exact hP) (by rw [ez_4]; simp only [if_neg c_17, if_neg c_33]; exact hD) hS (lv_sub hl [0, 1, 2, 3] rfl)
        · refine lv_aload_n hx hb dX5_slot_36 rfl (lv_at hl 1 rfl) ?_
          refine lv_iload_n hx hb dX5_slot_37 rfl (lv_at hl 0 rfl) ?_
          refine lv_iload_n hx hb dX5_slot_38 rfl (lv_at hl 3 rfl) ?_
          refine gv0v (As := [.int (nI i), .int v1]) (rest := []) ⟨hx, hb, hml, hown, hts⟩ (c_X5_beginPulse l E A G z1 a t r h i v1 h1 (by omega)) (cwV 2 hts gX5_slot_X5_beginPulse rfl rfl rfl (by decide +kernel) ⟨Nat.le_of_ble_eq_true rfl, Nat.le_of_ble_eq_true rfl⟩) (va_recv hK hP (ci := 5) (q0 := 0) rfl rfl) hP hK hD hN hS hA rfl hl.1 rfl (Nat.le_of_ble_eq_true rfl) dX5_slot_39 ⟨Nat.le_refl _, Nat.le_refl _⟩ (fun H locs hP hD hS => ?_)
          have hP : va_P E.1 vwCl (wM E A G (beginP i v1 z1) a t r h) H := hP
          have hD : va_D _ (wM E A G (beginP i v1 z1) a t r h) := hD
          exact J_17 H locs ls (by rw [ez_4]; simp only [if_neg c_17, if_pos c_33]; exact hP) (by rw [ez_4]; simp only [if_neg c_17, if_pos c_33]; exact hD) hS (lv_sub hl [0, 1, 2, 3] rfl)
  exact L_2 (mOf z) (0) z s.heap [] ls (by omega) (hz) (hz.2.2.2.1) rfl hP hD hS (lv_sub hl [0, 1, 2, 3] rfl)

set_option maxHeartbeats 4000000 in
set_option maxRecDepth 100000 in
theorem c_X5_record (l : Launch) (E : EE) (A : Nat → Nat) (G z a t r : Nat → Int32) (h : Int64) (v0 : Int32) : GM l yX5_record wsX5_record 0 0 E (wM E A G z a t r h) [.ref (A 0), .int v0] (wM E A G (recordZ v0 z) a t r h) (none) := by
  intro sz
  refine Met.ofW (cc := cX5_record) (maxL := 3) (ret := none) (by decide) rfl ?_
  intro p e s m args below meth c s₁ B hml hv
  obtain ⟨rfl, rfl, hP, hK, hD0, hN⟩ := hv
  have hx := B.exec
  have hb := B.bytes
  have hr := B.returns
  have hts := atoms_spec (ws := wsX5_record) B.pre
  have hown : s.vm.findClass RX5 = some m.cls := findClass_of_methodNamed B.named
  have hlocks := B.notSynchronized
  have hD := hD0.self (sz := s.heap.size)
  have hA : ∀ q : Nat, s.heap.size ≤ q → va_A (wM E A G z a t r h) s.heap.size q := fun q h => Or.inr h
  have hS : va_S (va_A (wM E A G z a t r h) s.heap.size) s.heap s.heap [] := va_S.rf
  have hl := lv_entry ([.ref (A 0), .int v0]) (n := 3) (Nat.le_of_ble_eq_true rfl)
  rw [lg_entry_eq]
  generalize (lg_sl ([.ref (A 0), .int v0]) ++ List.replicate (3 - (lg_sl ([.ref (A 0), .int v0])).length) Slot.unset).toArray = ls at hl ⊢
  have hl : lv_has ls 3 [(0, .ref (A 0)), (1, .int v0)] := hl
  have hf7 := hts (.fieldLink RX5 7 "PhaseConverterModel" "z" "[I") (List.mem_of_getElem? (i := 1) rfl)
  have hiX5 : ∀ w ∈ u_ws RX5 TX5 15, w ∈ wsX5_record := memIn [2, 3, 4, 5, 6, 7, 8, 9, 10, 11, 12, 13, 14, 15, 16] rfl
  refine lv_sipush (v := 158) hx hb dX5_record_0 (by decide) ?_
  refine lv_istore_n (lv' := [(2, .int 158), (0, .ref (A 0)), (1, .int v0)]) hx hb dX5_record_3 rfl hl (by decide) rfl (fun ls hl => ?_)
  have L_4 : ∀ (n : Nat) (z1 : Nat → Int32) (H : Heap) (locs : List Loc) (ls : Array Slot), (n ≤ 90) → (recL n z1 = recL 90 z) → va_P E.1 vwCl (wM E A G z1 a t r h) H → va_D (va_A (wM E A G z a t r h) s.heap.size) (wM E A G z1 a t r h) → va_S (va_A (wM E A G z a t r h) s.heap.size) s.heap H locs → lv_has ls 3 [(2, .int (nI (68 + n))), (0, .ref (A 0)), (1, .int v0)] → W p l e (gR wsX5_record 0 0) s m ([.ref (A 0), .int v0] : List Value).toArray below meth c H locs 0 0 (gMQ below E s (wM E A G z a t r h) (wM E A G (recordZ v0 z) a t r h) (none) [.ref (A 0), .int v0]) (F0 m 4 ls []) := by
    intro n
    induction n with
    | zero =>
      intro z1 H locs ls hn hfn hP hD hS hl
      have hl : lv_has ls 3 [(2, .int (nI 68)), (0, .ref (A 0)), (1, .int v0)] := hl
      have hf1 : z1 = recL 90 z := hfn
      subst hf1
      refine lv_iload_n hx hb dX5_record_4 rfl (lv_at hl 0 rfl) ?_
      refine lv_bipush (v := 69) hx hb dX5_record_5 (by decide) ?_
      refine lv_icmp_lt (tgt := 31) hx hb dX5_record_7 (by decide) (fun c_7 => ?_) (fun c_7 => absurd (by decide) c_7)
      refine lv_aload_n hx hb dX5_record_31 rfl (lv_at hl 1 rfl) ?_
      refine va_get (D := E.1) (ci := 5) (v := .ref (A 1)) (C := RX5) (T := TX5) (N := 15) hx hb hts hiX5 hown hK hP 0 rfl rfl 1 (by decide) hf7 (fun _ h9 => h9) rfl dX5_record_32 ?_
      refine lv_bipush (v := 63) hx hb dX5_record_35 (by decide) ?_
      refine lv_aload_n hx hb dX5_record_37 rfl (lv_at hl 1 rfl) ?_
      refine va_get (D := E.1) (ci := 5) (v := .ref (A 1)) (C := RX5) (T := TX5) (N := 15) hx hb hts hiX5 hown hK hP 0 rfl rfl 1 (by decide) hf7 (fun _ h9 => h9) rfl dX5_record_38 ?_
      refine lv_bipush (v := 17) hx hb dX5_record_41 (by decide) ?_
      refine gald (x := (recL 90 z) 17) hx hb hK hP 1 rfl 17 (rfl) (by decide) (by decide) rfl dX5_record_43 ?_
      refine gast hx hb hK hP hD hS 1 rfl 63 (rfl) (by decide) (by decide) dX5_record_44 (fun H locs hP hD hS => ?_)
      have hP : va_P E.1 vwCl (wM E A G (upd (recL 90 z) 63 ((recL 90 z) 17)) a t r h) H := hP
      have hD : va_D _ (wM E A G (upd (recL 90 z) 63 ((recL 90 z) 17)) a t r h) := hD
      refine lv_aload_n hx hb dX5_record_45 rfl (lv_at hl 1 rfl) ?_
      refine va_get (D := E.1) (ci := 5) (v := .ref (A 1)) (C := RX5) (T := TX5) (N := 15) hx hb hts hiX5 hown hK hP 0 rfl rfl 1 (by decide) hf7 (fun _ h9 => h9) rfl dX5_record_46 ?_
      refine lv_bipush (v := 64) hx hb dX5_record_49 (by decide) ?_
      refine lv_aload_n hx hb dX5_record_51 rfl (lv_at hl 1 rfl) ?_
      refine va_get (D := E.1) (ci := 5) (v := .ref (A 1)) (C := RX5) (T := TX5) (N := 15) hx hb hts hiX5 hown hK hP 0 rfl rfl 1 (by decide) hf7 (fun _ h9 => h9) rfl dX5_record_52 ?_
      refine lv_bipush (v := 22) hx hb dX5_record_55 (by decide) ?_
      refine gald (x := (recL 90 z) 22) hx hb hK hP 1 rfl 22 (rfl) (by decide) (by decide) rfl dX5_record_57 ?_
      refine gast hx hb hK hP hD hS 1 rfl 64 (rfl) (by decide) (by decide) dX5_record_58 (fun H locs hP hD hS => ?_)
      have hP : va_P E.1 vwCl (wM E A G (upd (upd (recL 90 z) 63 ((recL 90 z) 17)) 64 ((recL 90 z) 22)) a t r h) H := hP
      have hD : va_D _ (wM E A G (upd (upd (recL 90 z) 63 ((recL 90 z) 17)) 64 ((recL 90 z) 22)) a t r h) := hD
      refine lv_aload_n hx hb dX5_record_59 rfl (lv_at hl 1 rfl) ?_
      refine va_get (D := E.1) (ci := 5) (v := .ref (A 1)) (C := RX5) (T := TX5) (N := 15) hx hb hts hiX5 hown hK hP 0 rfl rfl 1 (by decide) hf7 (fun _ h9 => h9) rfl dX5_record_60 ?_
      refine lv_bipush (v := 65) hx hb dX5_record_63 (by decide) ?_
      refine lv_aload_n hx hb dX5_record_65 rfl (lv_at hl 1 rfl) ?_
      refine va_get (D := E.1) (ci := 5) (v := .ref (A 1)) (C := RX5) (T := TX5) (N := 15) hx hb hts hiX5 hown hK hP 0 rfl rfl 1 (by decide) hf7 (fun _ h9 => h9) rfl dX5_record_66 ?_
      refine lv_bipush (v := 23) hx hb dX5_record_69 (by decide) ?_
      refine gald (x := (recL 90 z) 23) hx hb hK hP 1 rfl 23 (rfl) (by decide) (by decide) rfl dX5_record_71 ?_
      refine gast hx hb hK hP hD hS 1 rfl 65 (rfl) (by decide) (by decide) dX5_record_72 (fun H locs hP hD hS => ?_)
      have hP : va_P E.1 vwCl (wM E A G (upd (upd (upd (recL 90 z) 63 ((recL 90 z) 17)) 64 ((recL 90 z) 22)) 65 ((recL 90 z) 23)) a t r h) H := hP
      have hD : va_D _ (wM E A G (upd (upd (upd (recL 90 z) 63 ((recL 90 z) 17)) 64 ((recL 90 z) 22)) 65 ((recL 90 z) 23)) a t r h) := hD
      refine lv_aload_n hx hb dX5_record_73 rfl (lv_at hl 1 rfl) ?_
      refine va_get (D := E.1) (ci := 5) (v := .ref (A 1)) (C := RX5) (T := TX5) (N := 15) hx hb hts hiX5 hown hK hP 0 rfl rfl 1 (by decide) hf7 (fun _ h9 => h9) rfl dX5_record_74 ?_
      refine lv_bipush (v := 66) hx hb dX5_record_77 (by decide) ?_
      refine lv_aload_n hx hb dX5_record_79 rfl (lv_at hl 1 rfl) ?_
      refine va_get (D := E.1) (ci := 5) (v := .ref (A 1)) (C := RX5) (T := TX5) (N := 15) hx hb hts hiX5 hown hK hP 0 rfl rfl 1 (by decide) hf7 (fun _ h9 => h9) rfl dX5_record_80 ?_
      refine lv_bipush (v := 16) hx hb dX5_record_83 (by decide) ?_
      refine gald (x := (recL 90 z) 16) hx hb hK hP 1 rfl 16 (rfl) (by decide) (by decide) rfl dX5_record_85 ?_
      refine gast hx hb hK hP hD hS 1 rfl 66 (rfl) (by decide) (by decide) dX5_record_86 (fun H locs hP hD hS => ?_)
      have hP : va_P E.1 vwCl (wM E A G (upd (upd (upd (upd (recL 90 z) 63 ((recL 90 z) 17)) 64 ((recL 90 z) 22)) 65 ((recL 90 z) 23)) 66 ((recL 90 z) 16)) a t r h) H := hP
      have hD : va_D _ (wM E A G (upd (upd (upd (upd (recL 90 z) 63 ((recL 90 z) 17)) 64 ((recL 90 z) 22)) 65 ((recL 90 z) 23)) 66 ((recL 90 z) 16)) a t r h) := hD
      refine lv_aload_n hx hb dX5_record_87 rfl (lv_at hl 1 rfl) ?_
      refine va_get (D := E.1) (ci := 5) (v := .ref (A 1)) (C := RX5) (T := TX5) (N := 15) hx hb hts hiX5 hown hK hP 0 rfl rfl 1 (by decide) hf7 (fun _ h9 => h9) rfl dX5_record_88 ?_
      refine lv_bipush (v := 67) hx hb dX5_record_91 (by decide) ?_
      refine lv_aload_n hx hb dX5_record_93 rfl (lv_at hl 1 rfl) ?_
      refine va_get (D := E.1) (ci := 5) (v := .ref (A 1)) (C := RX5) (T := TX5) (N := 15) hx hb hts hiX5 hown hK hP 0 rfl rfl 1 (by decide) hf7 (fun _ h9 => h9) rfl dX5_record_94 ?_
      refine lv_bipush (v := 20) hx hb dX5_record_97 (by decide) ?_
      refine gald (x := (recL 90 z) 20) hx hb hK hP 1 rfl 20 (rfl) (by decide) (by decide) rfl dX5_record_99 ?_
      refine gast hx hb hK hP hD hS 1 rfl 67 (rfl) (by decide) (by decide) dX5_record_100 (fun H locs hP hD hS => ?_)
      have hP : va_P E.1 vwCl (wM E A G (upd (upd (upd (upd (upd (recL 90 z) 63 ((recL 90 z) 17)) 64 ((recL 90 z) 22)) 65 ((recL 90 z) 23)) 66 ((recL 90 z) 16)) 67 ((recL 90 z) 20)) a t r h) H := hP
      have hD : va_D _ (wM E A G (upd (upd (upd (upd (upd (recL 90 z) 63 ((recL 90 z) 17)) 64 ((recL 90 z) 22)) 65 ((recL 90 z) 23)) 66 ((recL 90 z) 16)) 67 ((recL 90 z) 20)) a t r h) := hD
      refine lv_aload_n hx hb dX5_record_101 rfl (lv_at hl 1 rfl) ?_
      refine va_get (D := E.1) (ci := 5) (v := .ref (A 1)) (C := RX5) (T := TX5) (N := 15) hx hb hts hiX5 hown hK hP 0 rfl rfl 1 (by decide) hf7 (fun _ h9 => h9) rfl dX5_record_102 ?_
      refine lv_bipush (v := 68) hx hb dX5_record_105 (by decide) ?_
      refine lv_iload_n hx hb dX5_record_107 rfl (lv_at hl 2 rfl) ?_
      refine gast hx hb hK hP hD hS 1 rfl 68 (rfl) (by decide) (by decide) dX5_record_108 (fun H locs hP hD hS => ?_)
      have hP : va_P E.1 vwCl (wM E A G (upd (upd (upd (upd (upd (upd (recL 90 z) 63 ((recL 90 z) 17)) 64 ((recL 90 z) 22)) 65 ((recL 90 z) 23)) 66 ((recL 90 z) 16)) 67 ((recL 90 z) 20)) 68 v0) a t r h) H := hP
      have hD : va_D _ (wM E A G (upd (upd (upd (upd (upd (upd (recL 90 z) 63 ((recL 90 z) 17)) 64 ((recL 90 z) 22)) 65 ((recL 90 z) 23)) 66 ((recL 90 z) 16)) 67 ((recL 90 z) 20)) 68 v0) a t r h) := hD
      refine lv_aload_n hx hb dX5_record_109 rfl (lv_at hl 1 rfl) ?_
      refine va_get (D := E.1) (ci := 5) (v := .ref (A 1)) (C := RX5) (T := TX5) (N := 15) hx hb hts hiX5 hown hK hP 0 rfl rfl 1 (by decide) hf7 (fun _ h9 => h9) rfl dX5_record_110 ?_
      refine lv_bipush (v := 31) hx hb dX5_record_113 (by decide) ?_
      refine lv_dup2_11 hx hb dX5_record_115 rfl rfl ?_
      refine gald (x := (recL 90 z) 31) hx hb hK hP 1 rfl 31 (rfl) (by decide) (by decide) rfl dX5_record_116 ?_
      refine lv_aload_n hx hb dX5_record_117 rfl (lv_at hl 1 rfl) ?_
      refine va_get (D := E.1) (ci := 5) (v := .ref (A 1)) (C := RX5) (T := TX5) (N := 15) hx hb hts hiX5 hown hK hP 0 rfl rfl 1 (by decide) hf7 (fun _ h9 => h9) rfl dX5_record_118 ?_
      refine lv_bipush (v := 31) hx hb dX5_record_121 (by decide) ?_
      refine gald (x := (recL 90 z) 31) hx hb hK hP 1 rfl 31 (rfl) (by decide) (by decide) rfl dX5_record_123 ?_
      refine lv_bipush (v := 16) hx hb dX5_record_124 (by decide) ?_
      obtain ⟨x_1, ex_1⟩ : ∃ y : Int32, y = (if 16 ≤ ((recL 90 z) 31) then 0 else 1) := ⟨_, rfl⟩
      have fx : x_1 = (if (16 : Int32) ≤ recL 90 z 31 then 0 else 1) := ex_1
      have J_126 : ∀ (H : Heap) (locs : List Loc) (ls : Array Slot), va_P E.1 vwCl (wM E A G (upd (upd (upd (upd (upd (upd (recL 90 z) 63 ((recL 90 z) 17)) 64 ((recL 90 z) 22)) 65 ((recL 90 z) 23)) 66 ((recL 90 z) 16)) 67 ((recL 90 z) 20)) 68 v0) a t r h) H → va_D (va_A (wM E A G z a t r h) s.heap.size) (wM E A G (upd (upd (upd (upd (upd (upd (recL 90 z) 63 ((recL 90 z) 17)) 64 ((recL 90 z) 22)) 65 ((recL 90 z) 23)) 66 ((recL 90 z) 16)) 67 ((recL 90 z) 20)) 68 v0) a t r h) → va_S (va_A (wM E A G z a t r h) s.heap.size) s.heap H locs → lv_has ls 3 [(2, .int (nI 68)), (0, .ref (A 0)), (1, .int v0)] → W p l e (gR wsX5_record 0 0) s m ([.ref (A 0), .int v0] : List Value).toArray below meth c H locs 0 0 (gMQ below E s (wM E A G z a t r h) (wM E A G (recordZ v0 z) a t r h) (none) [.ref (A 0), .int v0]) (F0 m 134 ls [.int x_1, .int ((recL 90 z) 31), .int 31, .ref (A 1)]) := by
        intro H locs ls hP hD hS hl
        refine lv_iadd hx hb dX5_record_134 ?_
        refine gast hx hb hK hP hD hS 1 rfl 31 (rfl) (by decide) (by decide) dX5_record_135 (fun H locs hP hD hS => ?_)
        have hP : va_P E.1 vwCl (wM E A G (upd (upd (upd (upd (upd (upd (upd (recL 90 z) 63 ((recL 90 z) 17)) 64 ((recL 90 z) 22)) 65 ((recL 90 z) 23)) 66 ((recL 90 z) 16)) 67 ((recL 90 z) 20)) 68 v0) 31 (((recL 90 z) 31) + x_1)) a t r h) H := hP
        have hD : va_D _ (wM E A G (upd (upd (upd (upd (upd (upd (upd (recL 90 z) 63 ((recL 90 z) 17)) 64 ((recL 90 z) 22)) 65 ((recL 90 z) 23)) 66 ((recL 90 z) 16)) 67 ((recL 90 z) 20)) 68 v0) 31 (((recL 90 z) 31) + x_1)) a t r h) := hD
        exact gretv hx hb hr hlocks hP hD hS (by simp only [recordZ, ← fx]) dX5_record_136
      refine lv_icmp_ge (tgt := 133) hx hb dX5_record_126 (by decide) (fun c_126 => ?_) (fun c_126 => ?_)
      · refine lv_iconst (v := 0) hx hb dX5_record_133 (by decide) ?_
        refine W.eq (g2 := F0 m 134 ls [.int x_1, .int ((recL 90 z) 31), .int 31, .ref (A 1)]) (by rw [ex_1]; simp only [if_pos c_126]) ?_
        exact J_126 H locs ls (hP) (hD) hS (lv_sub hl [0, 1, 2] rfl)
      · refine lv_iconst (v := 1) hx hb dX5_record_129 (by decide) ?_
        refine lv_goto (tgt := 134) hx hb dX5_record_130 (by decide) ?_
        refine W.eq (g2 := F0 m 134 ls [.int x_1, .int ((recL 90 z) 31), .int 31, .ref (A 1)]) (by rw [ex_1]; simp only [if_neg c_126]) ?_
        exact J_126 H locs ls (hP) (hD) hS (lv_sub hl [0, 1, 2] rfl)
    | succ n ih =>
      intro z1 H locs ls hn hfn hP hD hS hl
      have hl : lv_has ls 3 [(2, .int (nI (68 + n + 1))), (0, .ref (A 0)), (1, .int v0)] := hl
      refine lv_iload_n hx hb dX5_record_4 rfl (lv_at hl 0 rfl) ?_
      refine lv_bipush (v := 69) hx hb dX5_record_5 (by decide) ?_
      refine lv_icmp_lt (tgt := 31) hx hb dX5_record_7 (by decide) (fun c_7 => absurd c_7 (nI_nlt (a := 68 + n + 1) (b := 69) (by omega) (by omega))) (fun c_7 => ?_)
      refine lv_aload_n hx hb dX5_record_10 rfl (lv_at hl 1 rfl) ?_
      refine va_get (D := E.1) (ci := 5) (v := .ref (A 1)) (C := RX5) (T := TX5) (N := 15) hx hb hts hiX5 hown hK hP 0 rfl rfl 1 (by decide) hf7 (fun _ h9 => h9) rfl dX5_record_11 ?_
      refine lv_iload_n hx hb dX5_record_14 rfl (lv_at hl 0 rfl) ?_
      refine lv_aload_n hx hb dX5_record_15 rfl (lv_at hl 1 rfl) ?_
      refine va_get (D := E.1) (ci := 5) (v := .ref (A 1)) (C := RX5) (T := TX5) (N := 15) hx hb hts hiX5 hown hK hP 0 rfl rfl 1 (by decide) hf7 (fun _ h9 => h9) rfl dX5_record_16 ?_
      refine lv_iload_n hx hb dX5_record_19 rfl (lv_at hl 0 rfl) ?_
      refine lv_bipush (v := 6) hx hb dX5_record_20 (by decide) ?_
      refine lv_isub hx hb dX5_record_22 ?_
      refine gald (x := z1 (62 + n + 1)) hx hb hK hP 1 rfl (62 + n + 1) (rec_ix n) (by omega) (by decide) rfl dX5_record_23 ?_
      refine gast hx hb hK hP hD hS 1 rfl (68 + n + 1) (rfl) (by omega) (by decide) dX5_record_24 (fun H locs hP hD hS => ?_)
      have hP : va_P E.1 vwCl (wM E A G (upd z1 (68 + n + 1) (z1 (62 + n + 1))) a t r h) H := hP
      have hD : va_D _ (wM E A G (upd z1 (68 + n + 1) (z1 (62 + n + 1))) a t r h) := hD
      refine lv_iinc (v := nI (68 + n)) (lv' := [(2, .int (nI (68 + n))), (0, .ref (A 0)), (1, .int v0)]) hx hb dX5_record_25 hl (k := 0) rfl (pk_m1 _) (by decide) rfl (fun ls hl => ?_)
      refine lv_goto (tgt := 4) hx hb dX5_record_28 (by decide) ?_
      exact ih (upd z1 (68 + n + 1) (z1 (62 + n + 1))) H locs ls (by omega) (hfn) hP hD hS (lv_sub hl [0, 1, 2] rfl)
  exact L_4 90 z s.heap [] ls (Nat.le_refl _) rfl hP hD hS (lv_sub hl [0, 1, 2] rfl)

set_option maxHeartbeats 4000000 in
set_option maxRecDepth 100000 in
theorem c_X5_cycle (l : Launch) (E : EE) (A : Nat → Nat) (G z a t r : Nat → Int32) (h : Int64) (hz : zOK z) : GM l yX5_cycle wsX5_cycle 4 92 E (wM E A G z a t r h) [.ref (A 0)] (wM E A ((cycle z G).2) ((cycle z G).1) a t r h) (none) := by
  intro sz
  refine Met.ofW (cc := cX5_cycle) (maxL := 7) (ret := none) (by decide) rfl ?_
  intro p e s m args below meth c s₁ B hml hv
  obtain ⟨rfl, rfl, hP, hK, hD0, hN⟩ := hv
  have hx := B.exec
  have hb := B.bytes
  have hr := B.returns
  have hts := atoms_spec (ws := wsX5_cycle) B.pre
  have hown : s.vm.findClass RX5 = some m.cls := findClass_of_methodNamed B.named
  have hlocks := B.notSynchronized
  have hD := hD0.self (sz := s.heap.size)
  have hA : ∀ q : Nat, s.heap.size ≤ q → va_A (wM E A G z a t r h) s.heap.size q := fun q h => Or.inr h
  have hS : va_S (va_A (wM E A G z a t r h) s.heap.size) s.heap s.heap [] := va_S.rf
  have hl := lv_entry ([.ref (A 0)]) (n := 7) (Nat.le_of_ble_eq_true rfl)
  rw [lg_entry_eq]
  generalize (lg_sl ([.ref (A 0)]) ++ List.replicate (7 - (lg_sl ([.ref (A 0)])).length) Slot.unset).toArray = ls at hl ⊢
  have hl : lv_has ls 7 [(0, .ref (A 0))] := hl
  have hf62 := hts (.fieldLink RX5 62 "PhaseConverterModel" "strongest" "I") (List.mem_of_getElem? (i := 3) rfl)
  have hf7 := hts (.fieldLink RX5 7 "PhaseConverterModel" "z" "[I") (List.mem_of_getElem? (i := 1) rfl)
  have hiX5 : ∀ w ∈ u_ws RX5 TX5 15, w ∈ wsX5_cycle := memIn [60, 61, 62, 63, 64, 65, 66, 67, 68, 69, 70, 71, 72, 73, 74] rfl
  refine lv_aload_n hx hb dX5_cycle_0 rfl (lv_at hl 0 rfl) ?_
  refine gv0i (As := []) (rest := []) ⟨hx, hb, hml, hown, hts⟩ (c_X5_runs l E A G z a t r h) (cwV 0 hts gX5_cycle_X5_runs rfl rfl rfl (by decide +kernel) ⟨Nat.le_of_ble_eq_true rfl, Nat.le_of_ble_eq_true rfl⟩) (va_recv hK hP (ci := 5) (q0 := 0) rfl rfl) hP hK hD hN hS hA rfl hl.1 rfl (Nat.le_of_ble_eq_true rfl) dX5_cycle_1 ⟨Nat.le_refl _, Nat.le_refl _⟩ (fun H locs hP hD hS => ?_)
  obtain ⟨z_1, ez_1⟩ : ∃ y : Nat → Int32, y = (if (runsI z) = 0 then z else (if (z 13) ≤ (z 0) then z else stopTo 4 z)) := ⟨_, rfl⟩
  have fz1 : z_1 = cy1 z := ez_1
  have hz1 : zOK z_1 := by rw [fz1]; exact cy1_OK hz
  have J_4 : ∀ (H : Heap) (locs : List Loc) (ls : Array Slot), va_P E.1 vwCl (wM E A G z_1 a t r h) H → va_D (va_A (wM E A G z a t r h) s.heap.size) (wM E A G z_1 a t r h) → va_S (va_A (wM E A G z a t r h) s.heap.size) s.heap H locs → lv_has ls 7 [(0, .ref (A 0))] → W p l e (gR wsX5_cycle 4 92) s m ([.ref (A 0)] : List Value).toArray below meth c H locs 0 0 (gMQ below E s (wM E A G z a t r h) (wM E A ((cycle z G).2) ((cycle z G).1) a t r h) (none) [.ref (A 0)]) (F0 m 28 ls []) := by
    intro H locs ls hP hD hS hl
    refine lv_aload_n hx hb dX5_cycle_28 rfl (lv_at hl 0 rfl) ?_
    refine gv0v (As := []) (rest := []) ⟨hx, hb, hml, hown, hts⟩ (c_X5_aim l E A G z_1 a t r h) (cwV 0 hts gX5_cycle_X5_aim rfl rfl rfl (by decide +kernel) ⟨Nat.le_of_ble_eq_true rfl, Nat.le_of_ble_eq_true rfl⟩) (va_recv hK hP (ci := 5) (q0 := 0) rfl rfl) hP hK hD hN hS hA rfl hl.1 rfl (Nat.le_of_ble_eq_true rfl) dX5_cycle_29 ⟨Nat.le_refl _, Nat.le_refl _⟩ (fun H locs hP hD hS => ?_)
    have hP : va_P E.1 vwCl (wM E A G (aim z_1) a t r h) H := hP
    have hD : va_D _ (wM E A G (aim z_1) a t r h) := hD
    refine lv_aload_n hx hb dX5_cycle_32 rfl (lv_at hl 0 rfl) ?_
    refine va_get (D := E.1) (ci := 5) (v := .ref (A 1)) (C := RX5) (T := TX5) (N := 15) hx hb hts hiX5 hown hK hP 0 rfl rfl 1 (by decide) hf7 (fun _ h9 => h9) rfl dX5_cycle_33 ?_
    refine lv_bipush (v := 22) hx hb dX5_cycle_36 (by decide) ?_
    refine gald (x := (aim z_1) 22) hx hb hK hP 1 rfl 22 (rfl) (by decide) (by decide) rfl dX5_cycle_38 ?_
    refine lv_istore_n (lv' := [(1, .int ((aim z_1) 22)), (0, .ref (A 0))]) hx hb dX5_cycle_39 rfl hl (by decide) rfl (fun ls hl => ?_)
    refine lv_aload_n hx hb dX5_cycle_40 rfl (lv_at hl 1 rfl) ?_
    refine gv0i (As := []) (rest := []) ⟨hx, hb, hml, hown, hts⟩ (c_X5_runs l E A G (aim z_1) a t r h) (cwV 0 hts gX5_cycle_X5_runs rfl rfl rfl (by decide +kernel) ⟨Nat.le_of_ble_eq_true rfl, Nat.le_of_ble_eq_true rfl⟩) (va_recv hK hP (ci := 5) (q0 := 0) rfl rfl) hP hK hD hN hS hA rfl hl.1 rfl (Nat.le_of_ble_eq_true rfl) dX5_cycle_41 ⟨Nat.le_refl _, Nat.le_refl _⟩ (fun H locs hP hD hS => ?_)
    obtain ⟨z_2, ez_2⟩ : ∃ y : Nat → Int32, y = (if (runsI (aim z_1)) = 0 then aim z_1 else choose (regulate (aim z_1))) := ⟨_, rfl⟩
    have fz3 : z_2 = cy3 (aim (cy1 z)) := by rw [← fz1]; exact ez_2
    have hz3 : zOK z_2 := by rw [fz3]; exact cy3_OK (aim_OK (cy1_OK hz))
    have J_44 : ∀ (H : Heap) (locs : List Loc) (ls : Array Slot), va_P E.1 vwCl (wM E A G z_2 a t r h) H → va_D (va_A (wM E A G z a t r h) s.heap.size) (wM E A G z_2 a t r h) → va_S (va_A (wM E A G z a t r h) s.heap.size) s.heap H locs → lv_has ls 7 [(1, .int ((aim z_1) 22)), (0, .ref (A 0))] → W p l e (gR wsX5_cycle 4 92) s m ([.ref (A 0)] : List Value).toArray below meth c H locs 0 0 (gMQ below E s (wM E A G z a t r h) (wM E A ((cycle z G).2) ((cycle z G).1) a t r h) (none) [.ref (A 0)]) (F0 m 55 ls []) := by
      intro H locs ls hP hD hS hl
      refine lv_aload_n hx hb dX5_cycle_55 rfl (lv_at hl 1 rfl) ?_
      refine va_get (D := E.1) (ci := 5) (v := .ref (A 1)) (C := RX5) (T := TX5) (N := 15) hx hb hts hiX5 hown hK hP 0 rfl rfl 1 (by decide) hf7 (fun _ h9 => h9) rfl dX5_cycle_56 ?_
      refine lv_bipush (v := 25) hx hb dX5_cycle_59 (by decide) ?_
      refine gald (x := z_2 25) hx hb hK hP 1 rfl 25 (rfl) (by decide) (by decide) rfl dX5_cycle_61 ?_
      refine lv_istore_n (lv' := [(2, .int (z_2 25)), (1, .int ((aim z_1) 22)), (0, .ref (A 0))]) hx hb dX5_cycle_62 rfl hl (by decide) rfl (fun ls hl => ?_)
      refine lv_iconst (v := 0) hx hb dX5_cycle_63 (by decide) ?_
      refine lv_istore_n (lv' := [(3, .int 0), (2, .int (z_2 25)), (1, .int ((aim z_1) 22)), (0, .ref (A 0))]) hx hb dX5_cycle_64 rfl hl (by decide) rfl (fun ls hl => ?_)
      refine lv_ldc (own := RX5) (v := 1000000) hx hb hown (hts (.constant RX5 75 (1000000)) (List.mem_of_getElem? (i := 2) rfl)) dX5_cycle_65 ?_
      refine lv_istore (lv' := [(4, .int 1000000), (3, .int 0), (2, .int (z_2 25)), (1, .int ((aim z_1) 22)), (0, .ref (A 0))]) hx hb dX5_cycle_67 hl (by decide) rfl (fun ls hl => ?_)
      refine lv_iconst (v := (-1)) hx hb dX5_cycle_69 (by decide) ?_
      refine lv_istore (lv' := [(5, .int (-1)), (4, .int 1000000), (3, .int 0), (2, .int (z_2 25)), (1, .int ((aim z_1) 22)), (0, .ref (A 0))]) hx hb dX5_cycle_70 hl (by decide) rfl (fun ls hl => ?_)
      refine lv_iconst (v := 0) hx hb dX5_cycle_72 (by decide) ?_
      refine lv_istore (lv' := [(6, .int 0), (5, .int (-1)), (4, .int 1000000), (3, .int 0), (2, .int (z_2 25)), (1, .int ((aim z_1) 22)), (0, .ref (A 0))]) hx hb dX5_cycle_73 hl (by decide) rfl (fun ls hl => ?_)
      have L_75 : ∀ (n i : Nat) (z3 : Nat → Int32) (G3 : Nat → Int32) (y3 : Int32) (y4 : Int32) (y5 : Int32) (H : Heap) (locs : List Loc) (ls : Array Slot), (i + n = 20) → (zOK z3) → (cycL (aim z_1 22) n i z3 G3 y3 y4 y5 = cycL (aim z_1 22) 20 0 z_2 G 0 1000000 (-1)) → va_P E.1 vwCl (wM E A G3 z3 a t r h) H → va_D (va_A (wM E A G z a t r h) s.heap.size) (wM E A G3 z3 a t r h) → va_S (va_A (wM E A G z a t r h) s.heap.size) s.heap H locs → lv_has ls 7 [(6, .int (nI i)), (5, .int y5), (4, .int y4), (3, .int y3), (2, .int (z_2 25)), (1, .int ((aim z_1) 22)), (0, .ref (A 0))] → W p l e (gR wsX5_cycle 4 92) s m ([.ref (A 0)] : List Value).toArray below meth c H locs 0 0 (gMQ below E s (wM E A G z a t r h) (wM E A ((cycle z G).2) ((cycle z G).1) a t r h) (none) [.ref (A 0)]) (F0 m 75 ls []) := by
        intro n
        induction n with
        | zero =>
          intro i z3 G3 y3 y4 y5 H locs ls hin h3 hfn hP hD hS hl
          have hf3 : (z3, G3, y3, y4, y5) = cycL (aim z_1 22) 20 0 z_2 G 0 1000000 (-1) := hfn
          refine lv_iload hx hb dX5_cycle_75 (lv_at hl 0 rfl) ?_
          refine lv_bipush (v := 20) hx hb dX5_cycle_77 (by decide) ?_
          refine lv_icmp_ge (tgt := 161) hx hb dX5_cycle_79 (by decide) (fun c_79 => ?_) (fun c_79 => absurd (nI_le (a := 20) (by omega) (by omega)) c_79)
          refine lv_aload_n hx hb dX5_cycle_161 rfl (lv_at hl 6 rfl) ?_
          refine va_get (D := E.1) (ci := 5) (v := .ref (A 1)) (C := RX5) (T := TX5) (N := 15) hx hb hts hiX5 hown hK hP 0 rfl rfl 1 (by decide) hf7 (fun _ h9 => h9) rfl dX5_cycle_162 ?_
          refine lv_bipush (v := 22) hx hb dX5_cycle_165 (by decide) ?_
          refine lv_iload_n hx hb dX5_cycle_167 rfl (lv_at hl 3 rfl) ?_
          refine lv_bipush (v := 20) hx hb dX5_cycle_168 (by decide) ?_
          refine lv_idiv hx hb dX5_cycle_170 (by decide) ?_
          refine gast hx hb hK hP hD hS 1 rfl 22 (rfl) (by decide) (by decide) dX5_cycle_171 (fun H locs hP hD hS => ?_)
          have hP : va_P E.1 vwCl (wM E A G3 (upd z3 22 (y3 / 20)) a t r h) H := hP
          have hD : va_D _ (wM E A G3 (upd z3 22 (y3 / 20)) a t r h) := hD
          refine lv_aload_n hx hb dX5_cycle_172 rfl (lv_at hl 6 rfl) ?_
          refine va_get (D := E.1) (ci := 5) (v := .ref (A 1)) (C := RX5) (T := TX5) (N := 15) hx hb hts hiX5 hown hK hP 0 rfl rfl 1 (by decide) hf7 (fun _ h9 => h9) rfl dX5_cycle_173 ?_
          refine lv_bipush (v := 23) hx hb dX5_cycle_176 (by decide) ?_
          refine lv_iload hx hb dX5_cycle_178 (lv_at hl 1 rfl) ?_
          refine lv_iload hx hb dX5_cycle_180 (lv_at hl 2 rfl) ?_
          refine lv_isub hx hb dX5_cycle_182 ?_
          refine gast hx hb hK hP hD hS 1 rfl 23 (rfl) (by decide) (by decide) dX5_cycle_183 (fun H locs hP hD hS => ?_)
          have hP : va_P E.1 vwCl (wM E A G3 (upd (upd z3 22 (y3 / 20)) 23 (y5 - y4)) a t r h) H := hP
          have hD : va_D _ (wM E A G3 (upd (upd z3 22 (y3 / 20)) 23 (y5 - y4)) a t r h) := hD
          refine lv_aload_n hx hb dX5_cycle_184 rfl (lv_at hl 6 rfl) ?_
          refine va_get (D := E.1) (ci := 5) (v := .ref (A 1)) (C := RX5) (T := TX5) (N := 15) hx hb hts hiX5 hown hK hP 0 rfl rfl 1 (by decide) hf7 (fun _ h9 => h9) rfl dX5_cycle_185 ?_
          refine lv_bipush (v := 27) hx hb dX5_cycle_188 (by decide) ?_
          refine lv_aload_n hx hb dX5_cycle_190 rfl (lv_at hl 6 rfl) ?_
          refine va_get (D := E.1) (ci := 5) (v := .int (G3 7)) (C := RX5) (T := TX5) (N := 15) hx hb hts hiX5 hown hK hP 0 rfl rfl 7 (by decide) hf62 (fun _ h9 => h9) rfl dX5_cycle_191 ?_
          refine lv_aload_n hx hb dX5_cycle_194 rfl (lv_at hl 6 rfl) ?_
          refine va_get (D := E.1) (ci := 5) (v := .ref (A 1)) (C := RX5) (T := TX5) (N := 15) hx hb hts hiX5 hown hK hP 0 rfl rfl 1 (by decide) hf7 (fun _ h9 => h9) rfl dX5_cycle_195 ?_
          refine lv_bipush (v := 27) hx hb dX5_cycle_198 (by decide) ?_
          refine gald (x := z3 27) hx hb hK hP 1 rfl 27 (rfl) (by decide) (by decide) rfl dX5_cycle_200 ?_
          obtain ⟨x_3, ex_3⟩ : ∃ y : Int32, y = (if (G3 7) ≤ (z3 27) then z3 27 else G3 7) := ⟨_, rfl⟩
          have fx27 : x_3 = (if G3 7 ≤ z3 27 then z3 27 else G3 7) := ex_3
          have J_201 : ∀ (H : Heap) (locs : List Loc) (ls : Array Slot), va_P E.1 vwCl (wM E A G3 (upd (upd z3 22 (y3 / 20)) 23 (y5 - y4)) a t r h) H → va_D (va_A (wM E A G z a t r h) s.heap.size) (wM E A G3 (upd (upd z3 22 (y3 / 20)) 23 (y5 - y4)) a t r h) → va_S (va_A (wM E A G z a t r h) s.heap.size) s.heap H locs → lv_has ls 7 [(6, .int (nI i)), (5, .int y5), (4, .int y4), (3, .int y3), (2, .int (z_2 25)), (1, .int ((aim z_1) 22)), (0, .ref (A 0))] → W p l e (gR wsX5_cycle 4 92) s m ([.ref (A 0)] : List Value).toArray below meth c H locs 0 0 (gMQ below E s (wM E A G z a t r h) (wM E A ((cycle z G).2) ((cycle z G).1) a t r h) (none) [.ref (A 0)]) (F0 m 218 ls [.int x_3, .int 27, .ref (A 1)]) := by
            intro H locs ls hP hD hS hl
            refine gast hx hb hK hP hD hS 1 rfl 27 (rfl) (by decide) (by decide) dX5_cycle_218 (fun H locs hP hD hS => ?_)
            have hP : va_P E.1 vwCl (wM E A G3 (upd (upd (upd z3 22 (y3 / 20)) 23 (y5 - y4)) 27 x_3) a t r h) H := hP
            have hD : va_D _ (wM E A G3 (upd (upd (upd z3 22 (y3 / 20)) 23 (y5 - y4)) 27 x_3) a t r h) := hD
            refine lv_aload_n hx hb dX5_cycle_219 rfl (lv_at hl 6 rfl) ?_
            refine va_get (D := E.1) (ci := 5) (v := .ref (A 1)) (C := RX5) (T := TX5) (N := 15) hx hb hts hiX5 hown hK hP 0 rfl rfl 1 (by decide) hf7 (fun _ h9 => h9) rfl dX5_cycle_220 ?_
            refine lv_bipush (v := 24) hx hb dX5_cycle_223 (by decide) ?_
            refine lv_dup2_11 hx hb dX5_cycle_225 rfl rfl ?_
            refine gald (x := z3 24) hx hb hK hP 1 rfl 24 (rfl) (by decide) (by decide) rfl dX5_cycle_226 ?_
            refine lv_iconst (v := 1) hx hb dX5_cycle_227 (by decide) ?_
            refine lv_iadd hx hb dX5_cycle_228 ?_
            refine gast hx hb hK hP hD hS 1 rfl 24 (rfl) (by decide) (by decide) dX5_cycle_229 (fun H locs hP hD hS => ?_)
            have hP : va_P E.1 vwCl (wM E A G3 (upd (upd (upd (upd z3 22 (y3 / 20)) 23 (y5 - y4)) 27 x_3) 24 ((z3 24) + 1)) a t r h) H := hP
            have hD : va_D _ (wM E A G3 (upd (upd (upd (upd z3 22 (y3 / 20)) 23 (y5 - y4)) 27 x_3) 24 ((z3 24) + 1)) a t r h) := hD
            refine lv_aload_n hx hb dX5_cycle_230 rfl (lv_at hl 6 rfl) ?_
            refine lv_aload_n hx hb dX5_cycle_231 rfl (lv_at hl 6 rfl) ?_
            refine va_get (D := E.1) (ci := 5) (v := .ref (A 1)) (C := RX5) (T := TX5) (N := 15) hx hb hts hiX5 hown hK hP 0 rfl rfl 1 (by decide) hf7 (fun _ h9 => h9) rfl dX5_cycle_232 ?_
            refine lv_bipush (v := 25) hx hb dX5_cycle_235 (by decide) ?_
            refine gald (x := z3 25) hx hb hK hP 1 rfl 25 (rfl) (by decide) (by decide) rfl dX5_cycle_237 ?_
            refine lv_iload_n hx hb dX5_cycle_238 rfl (lv_at hl 4 rfl) ?_
            refine lv_isub hx hb dX5_cycle_239 ?_
            refine gv0v (As := [.int ((z3 25) - (z_2 25))]) (rest := []) ⟨hx, hb, hml, hown, hts⟩ (c_X5_record l E A G3 (upd (upd (upd (upd z3 22 (y3 / 20)) 23 (y5 - y4)) 27 x_3) 24 ((z3 24) + 1)) a t r h ((z3 25) - (z_2 25))) (cwV 1 hts gX5_cycle_X5_record rfl rfl rfl (by decide +kernel) ⟨Nat.le_of_ble_eq_true rfl, Nat.le_of_ble_eq_true rfl⟩) (va_recv hK hP (ci := 5) (q0 := 0) rfl rfl) hP hK hD hN hS hA rfl hl.1 rfl (Nat.le_of_ble_eq_true rfl) dX5_cycle_240 ⟨Nat.le_refl _, Nat.le_refl _⟩ (fun H locs hP hD hS => ?_)
            have hP : va_P E.1 vwCl (wM E A G3 (recordZ ((z3 25) - (z_2 25)) (upd (upd (upd (upd z3 22 (y3 / 20)) 23 (y5 - y4)) 27 x_3) 24 ((z3 24) + 1))) a t r h) H := hP
            have hD : va_D _ (wM E A G3 (recordZ ((z3 25) - (z_2 25)) (upd (upd (upd (upd z3 22 (y3 / 20)) 23 (y5 - y4)) 27 x_3) 24 ((z3 24) + 1))) a t r h) := hD
            exact gretv hx hb hr hlocks hP hD hS (by rw [cycle_eq fz1 fz3 hf3]; simp only [cyE, ← fx27]) dX5_cycle_243
          refine lv_icmp_le (tgt := 211) hx hb dX5_cycle_201 (by decide) (fun c_201 => ?_) (fun c_201 => ?_)
          · refine lv_aload_n hx hb dX5_cycle_211 rfl (lv_at hl 6 rfl) ?_
            refine va_get (D := E.1) (ci := 5) (v := .ref (A 1)) (C := RX5) (T := TX5) (N := 15) hx hb hts hiX5 hown hK hP 0 rfl rfl 1 (by decide) hf7 (fun _ h9 => h9) rfl dX5_cycle_212 ?_
            refine lv_bipush (v := 27) hx hb dX5_cycle_215 (by decide) ?_
            refine gald (x := z3 27) hx hb hK hP 1 rfl 27 (rfl) (by decide) (by decide) rfl dX5_cycle_217 ?_
            refine W.eq (g2 := F0 m 218 ls [.int x_3, .int 27, .ref (A 1)]) (by rw [ex_3]; simp only [if_pos c_201]) ?_
            exact J_201 H locs ls (hP) (hD) hS (lv_sub hl [0, 1, 2, 3, 4, 5, 6] rfl)
          · refine lv_aload_n hx hb dX5_cycle_204 rfl (lv_at hl 6 rfl) ?_
            refine va_get (D := E.1) (ci := 5) (v := .int (G3 7)) (C := RX5) (T := TX5) (N := 15) hx hb hts hiX5 hown hK hP 0 rfl rfl 7 (by decide) hf62 (fun _ h9 => h9) rfl dX5_cycle_205 ?_
            refine lv_goto (tgt := 218) hx hb dX5_cycle_208 (by decide) ?_
            refine W.eq (g2 := F0 m 218 ls [.int x_3, .int 27, .ref (A 1)]) (by rw [ex_3]; simp only [if_neg c_201]) ?_
            exact J_201 H locs ls (hP) (hD) hS (lv_sub hl [0, 1, 2, 3, 4, 5, 6] rfl)
        | succ n ih =>
          intro i z3 G3 y3 y4 y5 H locs ls hin h3 hfn hP hD hS hl
          refine lv_iload hx hb dX5_cycle_75 (lv_at hl 0 rfl) ?_
          refine lv_bipush (v := 20) hx hb dX5_cycle_77 (by decide) ?_
          refine lv_icmp_ge (tgt := 161) hx hb dX5_cycle_79 (by decide) (fun c_79 => absurd c_79 (nI_ge (b := 20) (by omega) (by omega))) (fun c_79 => ?_)
          refine lv_aload_n hx hb dX5_cycle_82 rfl (lv_at hl 6 rfl) ?_
          refine lv_iload hx hb dX5_cycle_83 (lv_at hl 0 rfl) ?_
          refine lv_iload_n hx hb dX5_cycle_85 rfl (lv_at hl 5 rfl) ?_
          refine gv0v (As := [.int (nI i), .int ((aim z_1) 22)]) (rest := []) ⟨hx, hb, hml, hown, hts⟩ (c_X5_slot l E A G3 z3 a t r h (nI i) ((aim z_1) 22) h3) (cwV 2 hts gX5_cycle_X5_slot rfl rfl rfl (by decide +kernel) ⟨Nat.le_of_ble_eq_true rfl, Nat.le_of_ble_eq_true rfl⟩) (va_recv hK hP (ci := 5) (q0 := 0) rfl rfl) hP hK hD hN hS hA rfl hl.1 rfl (Nat.le_of_ble_eq_true rfl) dX5_cycle_86 ⟨Nat.le_refl _, Nat.le_refl _⟩ (fun H locs hP hD hS => ?_)
          have hP : va_P E.1 vwCl (wM E A ((slot (nI i) ((aim z_1) 22) z3 G3).2) ((slot (nI i) ((aim z_1) 22) z3 G3).1) a t r h) H := hP
          have hD : va_D _ (wM E A ((slot (nI i) ((aim z_1) 22) z3 G3).2) ((slot (nI i) ((aim z_1) 22) z3 G3).1) a t r h) := hD
          refine lv_iload_n hx hb dX5_cycle_89 rfl (lv_at hl 3 rfl) ?_
          refine lv_aload_n hx hb dX5_cycle_90 rfl (lv_at hl 6 rfl) ?_
          refine lv_aload_n hx hb dX5_cycle_91 rfl (lv_at hl 6 rfl) ?_
          refine va_get (D := E.1) (ci := 5) (v := .ref (A 1)) (C := RX5) (T := TX5) (N := 15) hx hb hts hiX5 hown hK hP 0 rfl rfl 1 (by decide) hf7 (fun _ h9 => h9) rfl dX5_cycle_92 ?_
          refine lv_bipush (v := 15) hx hb dX5_cycle_95 (by decide) ?_
          refine gald (x := ((slot (nI i) ((aim z_1) 22) z3 G3).1) 15) hx hb hK hP 1 rfl 15 (rfl) (by decide) (by decide) rfl dX5_cycle_97 ?_
          refine W.eq (g2 := F0 m 98 ls [.int (nI (nOf (slot (nI i) (aim z_1 22) z3 G3).1)), .ref (A 0), .int y3]) (by rw [(slot_OK h3).1]) ?_
          refine gv0i (As := [.int (nI (nOf (slot (nI i) (aim z_1 22) z3 G3).1))]) (rest := [.int y3]) ⟨hx, hb, hml, hown, hts⟩ (c_X5_sum l E A ((slot (nI i) ((aim z_1) 22) z3 G3).2) ((slot (nI i) ((aim z_1) 22) z3 G3).1) a t r h (nOf (slot (nI i) (aim z_1 22) z3 G3).1) ((slot_OK h3).2.2.1)) (cwV 1 hts gX5_cycle_X5_sum rfl rfl rfl (by decide +kernel) ⟨Nat.le_of_ble_eq_true rfl, Nat.le_of_ble_eq_true rfl⟩) (va_recv hK hP (ci := 5) (q0 := 0) rfl rfl) hP hK hD hN hS hA rfl hl.1 rfl (Nat.le_of_ble_eq_true rfl) dX5_cycle_98 ⟨Nat.le_refl _, Nat.le_refl _⟩ (fun H locs hP hD hS => ?_)
          refine lv_iadd hx hb dX5_cycle_101 ?_
          refine lv_istore_n (lv' := [(3, .int (y3 + (sumC (nOf (slot (nI i) (aim z_1 22) z3 G3).1) ((slot (nI i) ((aim z_1) 22) z3 G3).1)))), (6, .int (nI i)), (5, .int y5), (4, .int y4), (2, .int (z_2 25)), (1, .int ((aim z_1) 22)), (0, .ref (A 0))]) hx hb dX5_cycle_102 rfl hl (by decide) rfl (fun ls hl => ?_)
          refine lv_aload_n hx hb dX5_cycle_103 rfl (lv_at hl 6 rfl) ?_
          refine va_get (D := E.1) (ci := 5) (v := .ref (A 1)) (C := RX5) (T := TX5) (N := 15) hx hb hts hiX5 hown hK hP 0 rfl rfl 1 (by decide) hf7 (fun _ h9 => h9) rfl dX5_cycle_104 ?_
          refine lv_bipush (v := 17) hx hb dX5_cycle_107 (by decide) ?_
          refine gald (x := ((slot (nI i) ((aim z_1) 22) z3 G3).1) 17) hx hb hK hP 1 rfl 17 (rfl) (by decide) (by decide) rfl dX5_cycle_109 ?_
          refine lv_iload hx hb dX5_cycle_110 (lv_at hl 3 rfl) ?_
          obtain ⟨x_4, ex_4⟩ : ∃ y : Int32, y = (if y4 ≤ (((slot (nI i) ((aim z_1) 22) z3 G3).1) 17) then y4 else ((slot (nI i) ((aim z_1) 22) z3 G3).1) 17) := ⟨_, rfl⟩
          have fx4 : x_4 = loI i z3 G3 y4 (aim z_1 22) := ex_4
          have J_112 : ∀ (H : Heap) (locs : List Loc) (ls : Array Slot), va_P E.1 vwCl (wM E A ((slot (nI i) ((aim z_1) 22) z3 G3).2) ((slot (nI i) ((aim z_1) 22) z3 G3).1) a t r h) H → va_D (va_A (wM E A G z a t r h) s.heap.size) (wM E A ((slot (nI i) ((aim z_1) 22) z3 G3).2) ((slot (nI i) ((aim z_1) 22) z3 G3).1) a t r h) → va_S (va_A (wM E A G z a t r h) s.heap.size) s.heap H locs → lv_has ls 7 [(3, .int (y3 + (sumC (nOf (slot (nI i) (aim z_1 22) z3 G3).1) ((slot (nI i) ((aim z_1) 22) z3 G3).1)))), (6, .int (nI i)), (5, .int y5), (4, .int y4), (2, .int (z_2 25)), (1, .int ((aim z_1) 22)), (0, .ref (A 0))] → W p l e (gR wsX5_cycle 4 92) s m ([.ref (A 0)] : List Value).toArray below meth c H locs 0 0 (gMQ below E s (wM E A G z a t r h) (wM E A ((cycle z G).2) ((cycle z G).1) a t r h) (none) [.ref (A 0)]) (F0 m 127 ls [.int x_4]) := by
            intro H locs ls hP hD hS hl
            refine lv_istore (lv' := [(4, .int x_4), (3, .int (y3 + (sumC (nOf (slot (nI i) (aim z_1 22) z3 G3).1) ((slot (nI i) ((aim z_1) 22) z3 G3).1)))), (6, .int (nI i)), (5, .int y5), (2, .int (z_2 25)), (1, .int ((aim z_1) 22)), (0, .ref (A 0))]) hx hb dX5_cycle_127 hl (by decide) rfl (fun ls hl => ?_)
            refine lv_aload_n hx hb dX5_cycle_129 rfl (lv_at hl 6 rfl) ?_
            refine va_get (D := E.1) (ci := 5) (v := .ref (A 1)) (C := RX5) (T := TX5) (N := 15) hx hb hts hiX5 hown hK hP 0 rfl rfl 1 (by decide) hf7 (fun _ h9 => h9) rfl dX5_cycle_130 ?_
            refine lv_bipush (v := 17) hx hb dX5_cycle_133 (by decide) ?_
            refine gald (x := ((slot (nI i) ((aim z_1) 22) z3 G3).1) 17) hx hb hK hP 1 rfl 17 (rfl) (by decide) (by decide) rfl dX5_cycle_135 ?_
            refine lv_iload hx hb dX5_cycle_136 (lv_at hl 3 rfl) ?_
            obtain ⟨x_5, ex_5⟩ : ∃ y : Int32, y = (if (((slot (nI i) ((aim z_1) 22) z3 G3).1) 17) ≤ y5 then y5 else ((slot (nI i) ((aim z_1) 22) z3 G3).1) 17) := ⟨_, rfl⟩
            have fx5 : x_5 = hiI i z3 G3 y5 (aim z_1 22) := ex_5
            have J_138 : ∀ (H : Heap) (locs : List Loc) (ls : Array Slot), va_P E.1 vwCl (wM E A ((slot (nI i) ((aim z_1) 22) z3 G3).2) ((slot (nI i) ((aim z_1) 22) z3 G3).1) a t r h) H → va_D (va_A (wM E A G z a t r h) s.heap.size) (wM E A ((slot (nI i) ((aim z_1) 22) z3 G3).2) ((slot (nI i) ((aim z_1) 22) z3 G3).1) a t r h) → va_S (va_A (wM E A G z a t r h) s.heap.size) s.heap H locs → lv_has ls 7 [(4, .int x_4), (3, .int (y3 + (sumC (nOf (slot (nI i) (aim z_1 22) z3 G3).1) ((slot (nI i) ((aim z_1) 22) z3 G3).1)))), (6, .int (nI i)), (5, .int y5), (2, .int (z_2 25)), (1, .int ((aim z_1) 22)), (0, .ref (A 0))] → W p l e (gR wsX5_cycle 4 92) s m ([.ref (A 0)] : List Value).toArray below meth c H locs 0 0 (gMQ below E s (wM E A G z a t r h) (wM E A ((cycle z G).2) ((cycle z G).1) a t r h) (none) [.ref (A 0)]) (F0 m 153 ls [.int x_5]) := by
              intro H locs ls hP hD hS hl
              refine lv_istore (lv' := [(5, .int x_5), (4, .int x_4), (3, .int (y3 + (sumC (nOf (slot (nI i) (aim z_1 22) z3 G3).1) ((slot (nI i) ((aim z_1) 22) z3 G3).1)))), (6, .int (nI i)), (2, .int (z_2 25)), (1, .int ((aim z_1) 22)), (0, .ref (A 0))]) hx hb dX5_cycle_153 hl (by decide) rfl (fun ls hl => ?_)
              refine lv_iinc (v := nI (i + 1)) (lv' := [(6, .int (nI (i + 1))), (5, .int x_5), (4, .int x_4), (3, .int (y3 + (sumC (nOf (slot (nI i) (aim z_1 22) z3 G3).1) ((slot (nI i) ((aim z_1) 22) z3 G3).1)))), (2, .int (z_2 25)), (1, .int ((aim z_1) 22)), (0, .ref (A 0))]) hx hb dX5_cycle_155 hl (k := 3) rfl (nI_1 _) (by decide) rfl (fun ls hl => ?_)
              refine lv_goto (tgt := 75) hx hb dX5_cycle_158 (by decide) ?_
              exact ih (i + 1) ((slot (nI i) ((aim z_1) 22) z3 G3).1) ((slot (nI i) ((aim z_1) 22) z3 G3).2) (y3 + (sumC (nOf (slot (nI i) (aim z_1 22) z3 G3).1) ((slot (nI i) ((aim z_1) 22) z3 G3).1))) x_4 x_5 H locs ls (by omega) (slot_OK h3) (by rw [fx4, fx5]; exact hfn) hP hD hS (lv_sub hl [0, 1, 2, 3, 4, 5, 6] rfl)
            refine lv_icmp_le (tgt := 151) hx hb dX5_cycle_138 (by decide) (fun c_138 => ?_) (fun c_138 => ?_)
            · refine lv_iload hx hb dX5_cycle_151 (lv_at hl 3 rfl) ?_
              refine W.eq (g2 := F0 m 153 ls [.int x_5]) (by rw [ex_5]; simp only [if_pos c_138]) ?_
              exact J_138 H locs ls (hP) (hD) hS (lv_sub hl [0, 1, 2, 3, 4, 5, 6] rfl)
            · refine lv_aload_n hx hb dX5_cycle_141 rfl (lv_at hl 6 rfl) ?_
              refine va_get (D := E.1) (ci := 5) (v := .ref (A 1)) (C := RX5) (T := TX5) (N := 15) hx hb hts hiX5 hown hK hP 0 rfl rfl 1 (by decide) hf7 (fun _ h9 => h9) rfl dX5_cycle_142 ?_
              refine lv_bipush (v := 17) hx hb dX5_cycle_145 (by decide) ?_
              refine gald (x := ((slot (nI i) ((aim z_1) 22) z3 G3).1) 17) hx hb hK hP 1 rfl 17 (rfl) (by decide) (by decide) rfl dX5_cycle_147 ?_
              refine lv_goto (tgt := 153) hx hb dX5_cycle_148 (by decide) ?_
              refine W.eq (g2 := F0 m 153 ls [.int x_5]) (by rw [ex_5]; simp only [if_neg c_138]) ?_
              exact J_138 H locs ls (hP) (hD) hS (lv_sub hl [0, 1, 2, 3, 4, 5, 6] rfl)
          refine lv_icmp_ge (tgt := 125) hx hb dX5_cycle_112 (by decide) (fun c_112 => ?_) (fun c_112 => ?_)
          · refine lv_iload hx hb dX5_cycle_125 (lv_at hl 3 rfl) ?_
            refine W.eq (g2 := F0 m 127 ls [.int x_4]) (by rw [ex_4]; simp only [if_pos c_112]) ?_
            exact J_112 H locs ls (hP) (hD) hS (lv_sub hl [0, 1, 2, 3, 4, 5, 6] rfl)
          · refine lv_aload_n hx hb dX5_cycle_115 rfl (lv_at hl 6 rfl) ?_
            refine va_get (D := E.1) (ci := 5) (v := .ref (A 1)) (C := RX5) (T := TX5) (N := 15) hx hb hts hiX5 hown hK hP 0 rfl rfl 1 (by decide) hf7 (fun _ h9 => h9) rfl dX5_cycle_116 ?_
            refine lv_bipush (v := 17) hx hb dX5_cycle_119 (by decide) ?_
            refine gald (x := ((slot (nI i) ((aim z_1) 22) z3 G3).1) 17) hx hb hK hP 1 rfl 17 (rfl) (by decide) (by decide) rfl dX5_cycle_121 ?_
            refine lv_goto (tgt := 127) hx hb dX5_cycle_122 (by decide) ?_
            refine W.eq (g2 := F0 m 127 ls [.int x_4]) (by rw [ex_4]; simp only [if_neg c_112]) ?_
            exact J_112 H locs ls (hP) (hD) hS (lv_sub hl [0, 1, 2, 3, 4, 5, 6] rfl)
      exact L_75 (20) (0) z_2 G 0 1000000 (-1) H locs ls (by omega) (hz3) rfl hP hD hS (lv_sub hl [0, 1, 2, 3, 4, 5, 6] rfl)
    refine lv_if_eq (tgt := 55) hx hb dX5_cycle_44 (by decide) (fun c_44 => ?_) (fun c_44 => ?_)
    · exact J_44 H locs ls (by rw [ez_2]; simp only [if_pos c_44]; exact hP) (by rw [ez_2]; simp only [if_pos c_44]; exact hD) hS (lv_sub hl [0, 1] rfl)
    · refine lv_aload_n hx hb dX5_cycle_47 rfl (lv_at hl 1 rfl) ?_
      refine gv0v (As := []) (rest := []) ⟨hx, hb, hml, hown, hts⟩ (c_X5_regulate l E A G (aim z_1) a t r h ((aim_OK hz1).2.2.2.2.2.2.1)) (cwV 0 hts gX5_cycle_X5_regulate rfl rfl rfl (by decide +kernel) ⟨Nat.le_of_ble_eq_true rfl, Nat.le_of_ble_eq_true rfl⟩) (va_recv hK hP (ci := 5) (q0 := 0) rfl rfl) hP hK hD hN hS hA rfl hl.1 rfl (Nat.le_of_ble_eq_true rfl) dX5_cycle_48 ⟨Nat.le_refl _, Nat.le_refl _⟩ (fun H locs hP hD hS => ?_)
      have hP : va_P E.1 vwCl (wM E A G (regulate (aim z_1)) a t r h) H := hP
      have hD : va_D _ (wM E A G (regulate (aim z_1)) a t r h) := hD
      refine lv_aload_n hx hb dX5_cycle_51 rfl (lv_at hl 1 rfl) ?_
      refine gv0v (As := []) (rest := []) ⟨hx, hb, hml, hown, hts⟩ (c_X5_choosePhases l E A G (regulate (aim z_1)) a t r h (regulate_OK (aim_OK hz1))) (cwV 0 hts gX5_cycle_X5_choosePhases rfl rfl rfl (by decide +kernel) ⟨Nat.le_of_ble_eq_true rfl, Nat.le_of_ble_eq_true rfl⟩) (va_recv hK hP (ci := 5) (q0 := 0) rfl rfl) hP hK hD hN hS hA rfl hl.1 rfl (Nat.le_of_ble_eq_true rfl) dX5_cycle_52 ⟨Nat.le_refl _, Nat.le_refl _⟩ (fun H locs hP hD hS => ?_)
      have hP : va_P E.1 vwCl (wM E A G (choose (regulate (aim z_1))) a t r h) H := hP
      have hD : va_D _ (wM E A G (choose (regulate (aim z_1))) a t r h) := hD
      exact J_44 H locs ls (by rw [ez_2]; simp only [if_neg c_44]; exact hP) (by rw [ez_2]; simp only [if_neg c_44]; exact hD) hS (lv_sub hl [0, 1] rfl)
  refine lv_if_eq (tgt := 28) hx hb dX5_cycle_4 (by decide) (fun c_4 => ?_) (fun c_4 => ?_)
  · exact J_4 H locs ls (by rw [ez_1]; simp only [if_pos c_4]; exact hP) (by rw [ez_1]; simp only [if_pos c_4]; exact hD) hS (lv_sub hl [0] rfl)
  · refine lv_aload_n hx hb dX5_cycle_7 rfl (lv_at hl 0 rfl) ?_
    refine va_get (D := E.1) (ci := 5) (v := .ref (A 1)) (C := RX5) (T := TX5) (N := 15) hx hb hts hiX5 hown hK hP 0 rfl rfl 1 (by decide) hf7 (fun _ h9 => h9) rfl dX5_cycle_8 ?_
    refine lv_iconst (v := 0) hx hb dX5_cycle_11 (by decide) ?_
    refine gald (x := z 0) hx hb hK hP 1 rfl 0 (rfl) (by decide) (by decide) rfl dX5_cycle_12 ?_
    refine lv_aload_n hx hb dX5_cycle_13 rfl (lv_at hl 0 rfl) ?_
    refine va_get (D := E.1) (ci := 5) (v := .ref (A 1)) (C := RX5) (T := TX5) (N := 15) hx hb hts hiX5 hown hK hP 0 rfl rfl 1 (by decide) hf7 (fun _ h9 => h9) rfl dX5_cycle_14 ?_
    refine lv_bipush (v := 13) hx hb dX5_cycle_17 (by decide) ?_
    refine gald (x := z 13) hx hb hK hP 1 rfl 13 (rfl) (by decide) (by decide) rfl dX5_cycle_19 ?_
    refine lv_icmp_ge (tgt := 28) hx hb dX5_cycle_20 (by decide) (fun c_20 => ?_) (fun c_20 => ?_)
    · exact J_4 H locs ls (by rw [ez_1]; simp only [if_neg c_4, if_pos c_20]; exact hP) (by rw [ez_1]; simp only [if_neg c_4, if_pos c_20]; exact hD) hS (lv_sub hl [0] rfl)
    · refine lv_aload_n hx hb dX5_cycle_23 rfl (lv_at hl 0 rfl) ?_
      refine lv_iconst (v := 4) hx hb dX5_cycle_24 (by decide) ?_
      refine gv0v (As := [.int 4]) (rest := []) ⟨hx, hb, hml, hown, hts⟩ (c_X5_stopTo l E A G z a t r h 4 hz) (cwV 1 hts gX5_cycle_X5_stopTo rfl rfl rfl (by decide +kernel) ⟨Nat.le_of_ble_eq_true rfl, Nat.le_of_ble_eq_true rfl⟩) (va_recv hK hP (ci := 5) (q0 := 0) rfl rfl) hP hK hD hN hS hA rfl hl.1 rfl (Nat.le_of_ble_eq_true rfl) dX5_cycle_25 ⟨Nat.le_refl _, Nat.le_refl _⟩ (fun H locs hP hD hS => ?_)
      have hP : va_P E.1 vwCl (wM E A G (stopTo 4 z) a t r h) H := hP
      have hD : va_D _ (wM E A G (stopTo 4 z) a t r h) := hD
      exact J_4 H locs ls (by rw [ez_1]; simp only [if_neg c_4, if_neg c_20]; exact hP) (by rw [ez_1]; simp only [if_neg c_4, if_neg c_20]; exact hD) hS (lv_sub hl [0] rfl)
