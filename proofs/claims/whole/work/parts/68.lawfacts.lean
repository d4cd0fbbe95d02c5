/-! What holds at the law's entry. -/
theorem len_exact {args : Array Value} {s : State} {tm : Term} {N : Nat} (hN : N < 2 ^ 31) (hv : (Term.length tm).eval args s none [] s = some (.int (Int32.ofNat N))) {t : Nat} {cell : Cell} (ht : tm.eval args s none [] s = some (.ref t)) (hc : s.heap[t]? = some cell) : cell.slots.size = N := by
  obtain ⟨b, cell2, ht2, harr, hv2⟩ := Term.length_spec hv
  cases ht.symm.trans ht2
  obtain ⟨hcell, -, -, -⟩ := State.arrayAt?_spec harr
  cases hc.symm.trans hcell
  have hsz : cell.slots.size < 2 ^ 31 := by
    simp only [Term.eval, ht, harr, Option.bind_eq_bind, Option.bind_some] at hv
    by_cases hlt : cell.slots.size < 2147483648
    · exact hlt
    · simp [hlt] at hv
  have e : Int32.ofNat N = cell.slots.size.toInt32 := Value.int.inj hv2
  exact ((nI_eq hN hsz).mp e).symm
theorem XZ_of {args : Array Value} {s : State} {n : String} {f : Nat → Int32} (hl : (Cond.laysStatic RX4 n "[I").before args s = true) (hini : (Cond.initialized RX4).before args s = true) (harr : (Cond.arrayOf (.static RX4 n "[I") .int).before args s = true) (hlen : (Cond.eq (.length (.static RX4 n "[I")) (.int 15)).before args s = true)
    (hel : ∀ j, j < 15 → (Cond.eq (.elem (.static RX4 n "[I") (.int (Int32.ofNat j))) (.int (f j))).before args s = true) : ∃ b, (Term.static RX4 n "[I").eval args s none [] s = some (.ref b) ∧ XZ n b f (fun q => s.heap.size ≤ q) s := by
  have hA : ∀ a : Nat, a < s.heap.size → ¬ (fun q => s.heap.size ≤ q) a := fun a h => Nat.not_le.mpr h
  obtain ⟨t, ht, cell, h1, h2, h3, h4, h5, h6, h7⟩ := va_Tof (N := 15) (f := fun j => .int (f j)) (A := fun q => s.heap.size ≤ q) (by omega) harr (va_eqt hlen) (fun j hj => va_eqt (hel j hj)) hA
  exact ⟨t, ht, va_Zof hl hini ht hA, ⟨cell, h1, h2, h3, len_exact (N := 15) (by omega) (va_eqt hlen) ht h1, h6⟩, (Array.getElem?_eq_some_iff.mp h1).1, h7⟩
theorem arr_of {args : Array Value} {s : State} {ty : FieldType} (h : (Cond.arrayClass ty).before args s = true) : ∃ cA, ArrOfT s cA ty ∧ s.vm.findClass ("[" ++ ty.toString) = some cA := by
  obtain ⟨cA, k, comp, h1, h2, h3⟩ := Cond.arrayClass_spec h
  exact ⟨cA, fun n z => ⟨fun k h => (by cases h), k, h2, comp, h3⟩, h1⟩
theorem arr_ofO {args : Array Value} {s : State} {C : String} (h : (Cond.arrayOver (.object C)).before args s = true) : ∃ cA, ArrOfT s cA (.object C) ∧ va_RA s cA (.object C) := by
  obtain ⟨comp, cA, k, h1, h2, h3, h4, h5⟩ := Cond.arrayOver_spec h
  exact ⟨cA, fun n z => ⟨fun k h => (by cases h), k, h3, comp, h4⟩, k, comp, h3, h4, h1, h5⟩
theorem str_of {args : Array Value} {s : State} {own tx : String} {k : Nat} (h1 : (Cond.stringRef own k tx).before args s = true) (h2 : (Cond.exactly (.string own k) "java/lang/String").before args s = true) : ∃ a, vk_R own k tx a s := by
  obtain ⟨a, c, cell, k9, e, -⟩ := Cond.exactly_spec h2
  exact ⟨a, vk_R.of (A := args) h1 e⟩
set_option maxHeartbeats 4000000 in
set_option maxRecDepth 100000 in
theorem lw_facts {p : Program} {l : Launch} {s : State} {m : MethodId} {meth : Method} {c : Code} {b L : Nat} {xs : Nat → Int32} (hflags : l.flags = flags0) (C0 : lw_At p s m meth c b L xs) : ∃ (E : EE) (cL : ClassId) (T0 : Nat → Nat), LC p l s m c b L xs E cL T0 ∧ XC T0 s := by
  obtain ⟨hx, hb, hr, hml, hown, hts, hX, hbl, hlocks, hgv⟩ := id C0
  have hs := flat_of_before _ hgv
  obtain ⟨c0, i0, hk0⟩ := u_known (C := RX0) (T := TX0) (N := 3) (n := 3) hts inX0 (hts (.instantiable RX0 3) (List.mem_of_getElem? (i := 173) rfl))
  obtain ⟨c1, i1, hk1⟩ := u_known (C := RX1) (T := TX1) (N := 7) (n := 7) hts inX1 (hts (.instantiable RX1 7) (List.mem_of_getElem? (i := 73) rfl))
  obtain ⟨c2, i2, hk2⟩ := u_known (C := RX2) (T := TX2) (N := 17) (n := 17) hts inX2 (hts (.instantiable RX2 17) (List.mem_of_getElem? (i := 57) rfl))
  obtain ⟨c3, i3, hk3⟩ := u_known (C := RX3) (T := TX3) (N := 2) (n := 2) hts inX3 (hts (.instantiable RX3 2) (List.mem_of_getElem? (i := 190) rfl))
  obtain ⟨c4, i4, hk4⟩ := u_known (C := RX4) (T := TX4) (N := 4) (n := 4) hts inX4 (hts (.instantiable RX4 4) (List.mem_of_getElem? (i := 49) rfl))
  obtain ⟨c5, i5, hk5⟩ := u_known (C := RX5) (T := TX5) (N := 15) (n := 15) hts inX5 (hts (.instantiable RX5 15) (List.mem_of_getElem? (i := 669) rfl))
  obtain ⟨D, hKc⟩ : ∃ D : va_G, ∀ (k : Nat) (q : vw_C), vwCl[k]? = some q → u_Kn s q.1 q.2.1 q.2.2 (D.1 k) (D.2 k) := by
    refine ⟨(fun k => if k = 0 then c0 else if k = 1 then c1 else if k = 2 then c2 else if k = 3 then c3 else if k = 4 then c4 else c5, fun k => if k = 0 then i0 else if k = 1 then i1 else if k = 2 then i2 else if k = 3 then i3 else if k = 4 then i4 else i5), ?_⟩
    intro k q hq
    match k, hq with
    | 0, hq => cases hq; exact hk0
    | 1, hq => cases hq; exact hk1
    | 2, hq => cases hq; exact hk2
    | 3, hq => cases hq; exact hk3
    | 4, hq => cases hq; exact hk4
    | 5, hq => cases hq; exact hk5
    | k + 6, hq => simp [vwCl] at hq
  obtain ⟨cI, aI, nI9⟩ := arr_of (hts (.arrayClass .int) (List.mem_of_getElem? (i := 105) rfl))
  obtain ⟨cL, aL, nL9⟩ := arr_of (hts (.arrayClass .long) (List.mem_of_getElem? (i := 935) rfl))
  have hAO := (hts (.arrayOver (.object "PhaseConverter$Phase")) (List.mem_of_getElem? (i := 72) rfl))
  obtain ⟨cP, aP, nP⟩ := arr_ofO hAO
  obtain ⟨b0, e0, z0⟩ := XZ_of (n := "AT_FIRST") (f := firstT) (hts (.laysStatic RX4 "AT_FIRST" "[I") (List.mem_of_getElem? (i := 63) rfl)) (hts (.initialized RX4) (List.mem_of_getElem? (i := 34) rfl)) (hs (.arrayOf (.static RX4 "AT_FIRST" "[I") .int) (List.mem_of_getElem? (i := 5) (by decide +kernel))) (hs (.eq (.length (.static RX4 "AT_FIRST" "[I")) (.int 15)) (List.mem_of_getElem? (i := 6) (by decide +kernel))) (fun j hj => by
    obtain rfl | rfl | rfl | rfl | rfl | rfl | rfl | rfl | rfl | rfl | rfl | rfl | rfl | rfl | rfl : j = 0 ∨ j = 1 ∨ j = 2 ∨ j = 3 ∨ j = 4 ∨ j = 5 ∨ j = 6 ∨ j = 7 ∨ j = 8 ∨ j = 9 ∨ j = 10 ∨ j = 11 ∨ j = 12 ∨ j = 13 ∨ j = 14 := by omega
    · exact hs (.eq (.elem (.static RX4 "AT_FIRST" "[I") (.int 0)) (.int 12000)) (List.mem_of_getElem? (i := 7) (by decide +kernel))
    · exact hs (.eq (.elem (.static RX4 "AT_FIRST" "[I") (.int 1)) (.int 3300)) (List.mem_of_getElem? (i := 8) (by decide +kernel))
    · exact hs (.eq (.elem (.static RX4 "AT_FIRST" "[I") (.int 2)) (.int 1000)) (List.mem_of_getElem? (i := 9) (by decide +kernel))
    · exact hs (.eq (.elem (.static RX4 "AT_FIRST" "[I") (.int 3)) (.int 20)) (List.mem_of_getElem? (i := 10) (by decide +kernel))
    · exact hs (.eq (.elem (.static RX4 "AT_FIRST" "[I") (.int 4)) (.int 50)) (List.mem_of_getElem? (i := 11) (by decide +kernel))
    · exact hs (.eq (.elem (.static RX4 "AT_FIRST" "[I") (.int 5)) (.int 8000)) (List.mem_of_getElem? (i := 12) (by decide +kernel))
    · exact hs (.eq (.elem (.static RX4 "AT_FIRST" "[I") (.int 6)) (.int 50)) (List.mem_of_getElem? (i := 13) (by decide +kernel))
    · exact hs (.eq (.elem (.static RX4 "AT_FIRST" "[I") (.int 7)) (.int 20)) (List.mem_of_getElem? (i := 14) (by decide +kernel))
    · exact hs (.eq (.elem (.static RX4 "AT_FIRST" "[I") (.int 8)) (.int 100)) (List.mem_of_getElem? (i := 15) (by decide +kernel))
    · exact hs (.eq (.elem (.static RX4 "AT_FIRST" "[I") (.int 9)) (.int 300)) (List.mem_of_getElem? (i := 16) (by decide +kernel))
    · exact hs (.eq (.elem (.static RX4 "AT_FIRST" "[I") (.int 10)) (.int 3000)) (List.mem_of_getElem? (i := 17) (by decide +kernel))
    · exact hs (.eq (.elem (.static RX4 "AT_FIRST" "[I") (.int 11)) (.int 1000)) (List.mem_of_getElem? (i := 18) (by decide +kernel))
    · exact hs (.eq (.elem (.static RX4 "AT_FIRST" "[I") (.int 12)) (.int 5000)) (List.mem_of_getElem? (i := 19) (by decide +kernel))
    · exact hs (.eq (.elem (.static RX4 "AT_FIRST" "[I") (.int 13)) (.int 4000)) (List.mem_of_getElem? (i := 20) (by decide +kernel))
    · exact hs (.eq (.elem (.static RX4 "AT_FIRST" "[I") (.int 14)) (.int 100)) (List.mem_of_getElem? (i := 21) (by decide +kernel)))
  obtain ⟨b1, e1, z1⟩ := XZ_of (n := "LEAST") (f := lowT) (hts (.laysStatic RX4 "LEAST" "[I") (List.mem_of_getElem? (i := 510) rfl)) (hts (.initialized RX4) (List.mem_of_getElem? (i := 34) rfl)) (hs (.arrayOf (.static RX4 "LEAST" "[I") .int) (List.mem_of_getElem? (i := 25) (by decide +kernel))) (hs (.eq (.length (.static RX4 "LEAST" "[I")) (.int 15)) (List.mem_of_getElem? (i := 26) (by decide +kernel))) (fun j hj => by
    obtain rfl | rfl | rfl | rfl | rfl | rfl | rfl | rfl | rfl | rfl | rfl | rfl | rfl | rfl | rfl : j = 0 ∨ j = 1 ∨ j = 2 ∨ j = 3 ∨ j = 4 ∨ j = 5 ∨ j = 6 ∨ j = 7 ∨ j = 8 ∨ j = 9 ∨ j = 10 ∨ j = 11 ∨ j = 12 ∨ j = 13 ∨ j = 14 := by omega
    · exact hs (.eq (.elem (.static RX4 "LEAST" "[I") (.int 0)) (.int 1000)) (List.mem_of_getElem? (i := 27) (by decide +kernel))
    · exact hs (.eq (.elem (.static RX4 "LEAST" "[I") (.int 1)) (.int 500)) (List.mem_of_getElem? (i := 28) (by decide +kernel))
    · exact hs (.eq (.elem (.static RX4 "LEAST" "[I") (.int 2)) (.int 0)) (List.mem_of_getElem? (i := 29) (by decide +kernel))
    · exact hs (.eq (.elem (.static RX4 "LEAST" "[I") (.int 3)) (.int 1)) (List.mem_of_getElem? (i := 30) (by decide +kernel))
    · exact hs (.eq (.elem (.static RX4 "LEAST" "[I") (.int 4)) (.int 1)) (List.mem_of_getElem? (i := 31) (by decide +kernel))
    · exact hs (.eq (.elem (.static RX4 "LEAST" "[I") (.int 5)) (.int 100)) (List.mem_of_getElem? (i := 32) (by decide +kernel))
    · exact hs (.eq (.elem (.static RX4 "LEAST" "[I") (.int 6)) (.int 0)) (List.mem_of_getElem? (i := 33) (by decide +kernel))
    · exact hs (.eq (.elem (.static RX4 "LEAST" "[I") (.int 7)) (.int 0)) (List.mem_of_getElem? (i := 34) (by decide +kernel))
    · exact hs (.eq (.elem (.static RX4 "LEAST" "[I") (.int 8)) (.int 1)) (List.mem_of_getElem? (i := 35) (by decide +kernel))
    · exact hs (.eq (.elem (.static RX4 "LEAST" "[I") (.int 9)) (.int 0)) (List.mem_of_getElem? (i := 36) (by decide +kernel))
    · exact hs (.eq (.elem (.static RX4 "LEAST" "[I") (.int 10)) (.int 1)) (List.mem_of_getElem? (i := 37) (by decide +kernel))
    · exact hs (.eq (.elem (.static RX4 "LEAST" "[I") (.int 11)) (.int 0)) (List.mem_of_getElem? (i := 38) (by decide +kernel))
    · exact hs (.eq (.elem (.static RX4 "LEAST" "[I") (.int 12)) (.int 500)) (List.mem_of_getElem? (i := 39) (by decide +kernel))
    · exact hs (.eq (.elem (.static RX4 "LEAST" "[I") (.int 13)) (.int 0)) (List.mem_of_getElem? (i := 40) (by decide +kernel))
    · exact hs (.eq (.elem (.static RX4 "LEAST" "[I") (.int 14)) (.int 0)) (List.mem_of_getElem? (i := 41) (by decide +kernel)))
  obtain ⟨b2, e2, z2⟩ := XZ_of (n := "GREATEST") (f := highT) (hts (.laysStatic RX4 "GREATEST" "[I") (List.mem_of_getElem? (i := 512) rfl)) (hts (.initialized RX4) (List.mem_of_getElem? (i := 34) rfl)) (hs (.arrayOf (.static RX4 "GREATEST" "[I") .int) (List.mem_of_getElem? (i := 43) (by decide +kernel))) (hs (.eq (.length (.static RX4 "GREATEST" "[I")) (.int 15)) (List.mem_of_getElem? (i := 44) (by decide +kernel))) (fun j hj => by
    obtain rfl | rfl | rfl | rfl | rfl | rfl | rfl | rfl | rfl | rfl | rfl | rfl | rfl | rfl | rfl : j = 0 ∨ j = 1 ∨ j = 2 ∨ j = 3 ∨ j = 4 ∨ j = 5 ∨ j = 6 ∨ j = 7 ∨ j = 8 ∨ j = 9 ∨ j = 10 ∨ j = 11 ∨ j = 12 ∨ j = 13 ∨ j = 14 := by omega
    · exact hs (.eq (.elem (.static RX4 "GREATEST" "[I") (.int 0)) (.int 24000)) (List.mem_of_getElem? (i := 45) (by decide +kernel))
    · exact hs (.eq (.elem (.static RX4 "GREATEST" "[I") (.int 1)) (.int 12000)) (List.mem_of_getElem? (i := 46) (by decide +kernel))
    · exact hs (.eq (.elem (.static RX4 "GREATEST" "[I") (.int 2)) (.int 60000)) (List.mem_of_getElem? (i := 47) (by decide +kernel))
    · exact hs (.eq (.elem (.static RX4 "GREATEST" "[I") (.int 3)) (.int 100)) (List.mem_of_getElem? (i := 48) (by decide +kernel))
    · exact hs (.eq (.elem (.static RX4 "GREATEST" "[I") (.int 4)) (.int 500)) (List.mem_of_getElem? (i := 49) (by decide +kernel))
    · exact hs (.eq (.elem (.static RX4 "GREATEST" "[I") (.int 5)) (.int 30000)) (List.mem_of_getElem? (i := 50) (by decide +kernel))
    · exact hs (.eq (.elem (.static RX4 "GREATEST" "[I") (.int 6)) (.int 500)) (List.mem_of_getElem? (i := 51) (by decide +kernel))
    · exact hs (.eq (.elem (.static RX4 "GREATEST" "[I") (.int 7)) (.int 500)) (List.mem_of_getElem? (i := 52) (by decide +kernel))
    · exact hs (.eq (.elem (.static RX4 "GREATEST" "[I") (.int 8)) (.int 2000)) (List.mem_of_getElem? (i := 53) (by decide +kernel))
    · exact hs (.eq (.elem (.static RX4 "GREATEST" "[I") (.int 9)) (.int 10000)) (List.mem_of_getElem? (i := 54) (by decide +kernel))
    · exact hs (.eq (.elem (.static RX4 "GREATEST" "[I") (.int 10)) (.int 30000)) (List.mem_of_getElem? (i := 55) (by decide +kernel))
    · exact hs (.eq (.elem (.static RX4 "GREATEST" "[I") (.int 11)) (.int 30000)) (List.mem_of_getElem? (i := 56) (by decide +kernel))
    · exact hs (.eq (.elem (.static RX4 "GREATEST" "[I") (.int 12)) (.int 30000)) (List.mem_of_getElem? (i := 57) (by decide +kernel))
    · exact hs (.eq (.elem (.static RX4 "GREATEST" "[I") (.int 13)) (.int 24000)) (List.mem_of_getElem? (i := 58) (by decide +kernel))
    · exact hs (.eq (.elem (.static RX4 "GREATEST" "[I") (.int 14)) (.int 1000)) (List.mem_of_getElem? (i := 59) (by decide +kernel)))
  obtain ⟨x1, x2, x3, x4, x5, x6, x7, x8, x9, x10, -⟩ := Cond.exactly_spec (hs (.exactly (.static RX4 "AT_FIRST" "[I") "[I") (List.mem_of_getElem? (i := 711) (by decide +kernel)))
  cases e0.symm.trans x5
  have hA : ∀ a : Nat, a < s.heap.size → ¬ (fun q => s.heap.size ≤ q) a := fun a h => Nat.not_le.mpr h
  have tU : vx_Zq Bundle.tN "UNASSIGNED_STACK" Bundle.steD (fun q => s.heap.size ≤ q) s s.heap := vx_Zqof (hts (.laysStatic Bundle.tN "UNASSIGNED_STACK" Bundle.steD) (List.mem_of_getElem? (i := 332) rfl)) (hts (.initialized Bundle.tN) (List.mem_of_getElem? (i := 40) rfl)) (hs (.isRef (.static Bundle.tN "UNASSIGNED_STACK" Bundle.steD)) (List.mem_of_getElem? (i := 22) (by decide +kernel))) hA
  have tV : vx_Zq Bundle.tN "SUPPRESSED_SENTINEL" Bundle.listD (fun q => s.heap.size ≤ q) s s.heap := vx_Zqof (hts (.laysStatic Bundle.tN "SUPPRESSED_SENTINEL" Bundle.listD) (List.mem_of_getElem? (i := 334) rfl)) (hts (.initialized Bundle.tN) (List.mem_of_getElem? (i := 40) rfl)) (hs (.isRef (.static Bundle.tN "SUPPRESSED_SENTINEL" Bundle.listD)) (List.mem_of_getElem? (i := 23) (by decide +kernel))) hA
  have tS : ∀ q ∈ xStr, ∃ a, vk_R RX4 q.1 q.2 a s := List.forall_mem_cons.mpr ⟨str_of (hts (.stringRef RX4 37 "phases is not 1 to 4") (List.mem_of_getElem? (i := 466) rfl)) (hs (.exactly (.string RX4 37) "java/lang/String") (List.mem_of_getElem? (i := 109) (by decide +kernel))), List.forall_mem_cons.mpr ⟨str_of (hts (.stringRef RX4 58 "there is no such setting") (List.mem_of_getElem? (i := 499) rfl)) (hs (.exactly (.string RX4 58) "java/lang/String") (List.mem_of_getElem? (i := 134) (by decide +kernel))), List.forall_mem_cons.mpr ⟨str_of (hts (.stringRef RX4 65 "value is out of the range of the setting") (List.mem_of_getElem? (i := 513) rfl)) (hs (.exactly (.string RX4 65) "java/lang/String") (List.mem_of_getElem? (i := 164) (by decide +kernel))), List.forall_mem_cons.mpr ⟨str_of (hts (.stringRef RX4 77 "the converter runs") (List.mem_of_getElem? (i := 539) rfl)) (hs (.exactly (.string RX4 77) "java/lang/String") (List.mem_of_getElem? (i := 211) (by decide +kernel))), List.forall_mem_cons.mpr ⟨str_of (hts (.stringRef RX4 95 "cycles is not 1 to 200") (List.mem_of_getElem? (i := 560) rfl)) (hs (.exactly (.string RX4 95) "java/lang/String") (List.mem_of_getElem? (i := 237) (by decide +kernel))), List.forall_mem_cons.mpr ⟨str_of (hts (.stringRef RX4 100 "there would be more than 100000 cycles") (List.mem_of_getElem? (i := 566) rfl)) (hs (.exactly (.string RX4 100) "java/lang/String") (List.mem_of_getElem? (i := 268) (by decide +kernel))), List.forall_mem_cons.mpr ⟨str_of (hts (.stringRef RX4 105 "code is not 33 to 126") (List.mem_of_getElem? (i := 585) rfl)) (hs (.exactly (.string RX4 105) "java/lang/String") (List.mem_of_getElem? (i := 316) (by decide +kernel))), List.forall_mem_cons.mpr ⟨str_of (hts (.stringRef RX4 110 "the buffer has 50 characters") (List.mem_of_getElem? (i := 590) rfl)) (hs (.exactly (.string RX4 110) "java/lang/String") (List.mem_of_getElem? (i := 348) (by decide +kernel))), List.forall_mem_cons.mpr ⟨str_of (hts (.stringRef RX4 122 "the buffer is not a complete program") (List.mem_of_getElem? (i := 602) rfl)) (hs (.exactly (.string RX4 122) "java/lang/String") (List.mem_of_getElem? (i := 388) (by decide +kernel))), List.forall_mem_cons.mpr ⟨str_of (hts (.stringRef RX4 138 "what is not 0 to 14") (List.mem_of_getElem? (i := 622) rfl)) (hs (.exactly (.string RX4 138) "java/lang/String") (List.mem_of_getElem? (i := 437) (by decide +kernel))), List.forall_mem_cons.mpr ⟨str_of (hts (.stringRef RX4 147 "the phase does not exist") (List.mem_of_getElem? (i := 630) rfl)) (hs (.exactly (.string RX4 147) "java/lang/String") (List.mem_of_getElem? (i := 470) (by decide +kernel))), List.forall_mem_cons.mpr ⟨str_of (hts (.stringRef RX4 149 "what is not 0 to 6") (List.mem_of_getElem? (i := 631) rfl)) (hs (.exactly (.string RX4 149) "java/lang/String") (List.mem_of_getElem? (i := 509) (by decide +kernel))), List.forall_mem_cons.mpr ⟨str_of (hts (.stringRef RX4 159 "there is no such record") (List.mem_of_getElem? (i := 639) rfl)) (hs (.exactly (.string RX4 159) "java/lang/String") (List.mem_of_getElem? (i := 543) (by decide +kernel))), List.forall_mem_cons.mpr ⟨str_of (hts (.stringRef RX4 161 "what is not 0 to 5") (List.mem_of_getElem? (i := 640) rfl)) (hs (.exactly (.string RX4 161) "java/lang/String") (List.mem_of_getElem? (i := 583) (by decide +kernel))), List.forall_mem_cons.mpr ⟨str_of (hts (.stringRef RX4 167 "an argument is out of range") (List.mem_of_getElem? (i := 648) rfl)) (hs (.exactly (.string RX4 167) "java/lang/String") (List.mem_of_getElem? (i := 619) (by decide +kernel))), List.forall_mem_cons.mpr ⟨str_of (hts (.stringRef RX4 196 "band is not 0 to 5000") (List.mem_of_getElem? (i := 346) rfl)) (hs (.exactly (.string RX4 196) "java/lang/String") (List.mem_of_getElem? (i := 84) (by decide +kernel))), List.forall_mem_cons.mpr ⟨str_of (hts (.stringRef RX4 201 "level is not 0 to 40000") (List.mem_of_getElem? (i := 663) rfl)) (hs (.exactly (.string RX4 201) "java/lang/String") (List.mem_of_getElem? (i := 665) (by decide +kernel))), fun _ h9 => absurd h9 List.not_mem_nil⟩⟩⟩⟩⟩⟩⟩⟩⟩⟩⟩⟩⟩⟩⟩⟩⟩
  have tN : XN s := ⟨va_Nw.of rfl (hts (.declares (Bundle.initS "java/lang/RuntimeException")) (List.mem_of_getElem? (i := 309) rfl)), va_Nw.of rfl (hts (.declares (Bundle.initS "java/lang/Exception")) (List.mem_of_getElem? (i := 311) rfl)), va_Nw.of rfl (hts (.declares (Bundle.initS Bundle.tN)) (List.mem_of_getElem? (i := 313) rfl)), va_Nw.of rfl (hts (.castable IAE IAE) (List.mem_of_getElem? (i := 307) rfl)), va_Nw.of rfl (hts (.castable ISE ISE) (List.mem_of_getElem? (i := 532) rfl)), va_Nw.of rfl (hts (.castable IOE IOE) (List.mem_of_getElem? (i := 492) rfl))⟩
  have hN : NW s := ⟨va_Nw.of rfl (hts (.methodLinkNest RX2 133 yX4_clamp RX4) (List.mem_of_getElem? (i := 407) rfl)), va_Nw.of rfl (hts (.methodLinkNest RX2 137 yX4_quotient RX4) (List.mem_of_getElem? (i := 410) rfl)), va_Nw.of rfl (hts (.methodLinkNest RX2 29 yX1_init RX4) (List.mem_of_getElem? (i := 74) rfl)), va_Nw.of rfl (hts (.methodLinkNest RX3 30 yX4_isDigit RX4) (List.mem_of_getElem? (i := 246) rfl)), va_Nw.of rfl (hts (.methodLinkNest RX4 23 yX0_init RX4) (List.mem_of_getElem? (i := 174) rfl)), va_Nw.of rfl (hts (.methodLinkNest RX4 30 yX3_init RX4) (List.mem_of_getElem? (i := 191) rfl)), va_Nw.of rfl (hts (.fieldLinkNest RX2 9 RX4 "AT_FIRST" "[I" RX4) (List.mem_of_getElem? (i := 62) rfl))⟩
  have hst : l.stackTraces = false := by
    unfold Launch.stackTraces
    rw [hflags]
    decide
  refine ⟨(D, cI, cP), cL, fun k => if k = 0 then b0 else if k = 1 then b1 else b2, ⟨hx, hb, hml, hown, fun w h => hts w (wsL_law_in w h), hX, hbl, ⟨hKc, fun k q h => ?_⟩, ⟨hKc, fun k q h => ?_⟩, hN, ⟨z0, z1, z2, tU, tV, tS, tN, va_Nc.of (hs (.not (.castable IAE IOE)) (List.mem_of_getElem? (i := 74) (by decide +kernel))), va_Nc.of (hs (.not (.castable ISE IAE)) (List.mem_of_getElem? (i := 67) (by decide +kernel)))⟩, hst⟩, va_AO.of hAO, va_Nw.of rfl (hts (.castable "[I" "java/lang/Cloneable") (List.mem_of_getElem? (i := 69) rfl)), x3, x7, by rw [x10]; exact x6⟩
  · match k, h with
    | 0, h => cases h; exact ⟨aI, nI9⟩
    | 1, h => cases h; exact ⟨aP, nP⟩
    | k + 2, h => simp at h
  · match k, h with
    | 0, h => cases h; exact ⟨aL, nL9⟩
    | 1, h => cases h; exact ⟨aI, nI9⟩
    | 2, h => cases h; exact ⟨aP, nP⟩
    | k + 3, h => simp at h
