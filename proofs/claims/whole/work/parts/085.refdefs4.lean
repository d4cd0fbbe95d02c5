/-! What the reference's functions leave alone, from place 63 on; what would be, and is taken back. -/
theorem stopL_ge {j N : Nat} (h : 35 + 7 * N ≤ j) : ∀ (n i : Nat) (z : Nat → Int32), i + n ≤ N → stopL n i z j = z j := by
  intro n
  induction n with
  | zero => intro i z _; rfl
  | succ n ih =>
    intro i z hb
    show stopL n (i + 1) _ j = z j
    rw [ih _ _ (by omega), pk_un (by omega)]
theorem stopTo_ge {v : Int32} {j : Nat} {z : Nat → Int32} (h : 35 + 7 * nOf z ≤ j) : stopTo v z j = z j := by
  unfold stopTo
  rw [stopL_ge h _ _ _ (by omega), pk_un (by omega)]
theorem changePh_ge {v : Int32} {j : Nat} {z : Nat → Int32} (h : 35 ≤ j) : changePh v z j = z j := by
  unfold changePh
  rw [pk_un (by omega), pk_un (by omega), pk_un (by omega), pk_un (by omega)]
theorem choose_ge {j : Nat} {z : Nat → Int32} (hz : zOK z) (h : 35 + 7 * nOf z ≤ j) : choose z j = z j := by
  have h2 := hz.2.2.2.2.2.1
  have h3 := hz.2.2.2.2.1
  unfold choose
  split
  · rw [changePh_ge (by omega), pk_un (by omega)]
  · split
    · rw [pk_un (by omega), changePh_ge (by omega), pk_un (by omega), pk_un (by omega)]
    · rw [pk_un (by omega), pk_un (by omega)]
/-- functions that keep the number of phases -/
theorem nOf_of {z z' : Nat → Int32} (h : z' 15 = z 15) : nOf z' = nOf z := by unfold nOf; rw [h]
theorem stopTo_n {v : Int32} {z : Nat → Int32} : nOf (stopTo v z) = nOf z := nOf_of (stopTo_lt (by omega) (by omega))
theorem cy1_n {z : Nat → Int32} : nOf (cy1 z) = nOf z := by
  unfold cy1
  split
  · rfl
  · split
    · rfl
    · exact stopTo_n
theorem aim_n {z : Nat → Int32} : nOf (aim z) = nOf z := nOf_of (aim_lt (by omega) (by omega))
theorem regulate_n {z : Nat → Int32} : nOf (regulate z) = nOf z := nOf_of (regulate_lt (by omega) (by omega))
theorem changePh_n {v : Int32} {z : Nat → Int32} : nOf (changePh v z) = nOf z := nOf_of (by unfold changePh; rw [pk_un (by omega), pk_un (by omega), pk_un (by omega), pk_un (by omega)])
theorem upd_n {k : Nat} {v : Int32} {z : Nat → Int32} (h : k ≠ 15) : nOf (upd z k v) = nOf z := nOf_of (pk_un (Ne.symm h))
theorem choose_n {z : Nat → Int32} : nOf (choose z) = nOf z := by
  unfold choose
  split
  · rw [changePh_n, upd_n (by omega)]
  · split
    · rw [upd_n (by omega), changePh_n, upd_n (by omega), upd_n (by omega)]
    · rw [upd_n (by omega), upd_n (by omega)]
theorem cy3_n {z : Nat → Int32} : nOf (cy3 z) = nOf z := by
  unfold cy3
  split
  · rfl
  · rw [choose_n, regulate_n]
theorem slotA_n {v a : Int32} {n i : Nat} {z : Nat → Int32} : nOf (slotA v a n i z) = nOf z := nOf_of (slotA_lt (by omega) (by omega) _ _ _)
theorem slotB_n {n i : Nat} {z G : Nat → Int32} : nOf (slotB n i z G).1 = nOf z := nOf_of (slotB_lt (by omega) (by omega) _ _ _ _)
theorem slotC_n {z : Nat → Int32} : nOf (slotC z) = nOf z := nOf_of (slotC_lt (by omega))
theorem slotD_n {z : Nat → Int32} : nOf (slotD z) = nOf z := nOf_of (slotD_lt (by omega) (by omega))
theorem slot_n {v a : Int32} {z G : Nat → Int32} : nOf (slot v a z G).1 = nOf z := nOf_of (slot_lt (by omega) (by omega) (by omega) (by omega) (by omega))
theorem cy1_ge {j : Nat} {z : Nat → Int32} (h : 35 + 7 * nOf z ≤ j) : cy1 z j = z j := by
  unfold cy1
  split
  · rfl
  · split
    · rfl
    · exact stopTo_ge h
theorem cy3_ge {j : Nat} {z : Nat → Int32} (hz : zOK z) (h : 35 + 7 * nOf z ≤ j) : cy3 z j = z j := by
  unfold cy3
  split
  · rfl
  · rw [choose_ge (regulate_OK hz) (by rw [regulate_n]; exact h), regulate_lt (by omega) (by omega)]
theorem beginP_ge {k j : Nat} {v : Int32} {z : Nat → Int32} (h : 35 + 7 * (k + 1) ≤ j) : beginP k v z j = z j := by
  have a : bpGo k z j = z j := by unfold bpGo; rw [pk_un (by omega), pk_un (by omega), pk_un (by omega)]
  have b : bpSkip k z j = z j := by unfold bpSkip; rw [pk_un (by omega), pk_un (by omega), pk_un (by omega)]
  unfold beginP
  repeat' split
  all_goals first | exact a | exact b
theorem sbp_ge {v a : Int32} {k j : Nat} {z : Nat → Int32} (h : 35 + 7 * (k + 1) ≤ j) : sbp v a k z j = z j := by
  unfold sbp
  split
  · rfl
  · split
    · exact beginP_ge h
    · rfl
theorem slotA_ge {v a : Int32} {j N : Nat} (h : 35 + 7 * N ≤ j) : ∀ (n i : Nat) (z : Nat → Int32), i + n ≤ N → slotA v a n i z j = z j := by
  intro n
  induction n with
  | zero => intro i z _; rfl
  | succ n ih =>
    intro i z hb
    show slotA v a n (i + 1) _ j = z j
    rw [ih _ _ (by omega), sbp_ge (by omega)]
theorem step_ge {k j : Nat} {z : Nat → Int32} (h : 35 + 7 * (k + 1) ≤ j) : step k z j = z j := by
  have a1 : ∀ z : Nat → Int32, st1 k z j = z j := fun z => by
    unfold st1
    repeat' split
    · rfl
    · rfl
    · rw [pk_un (by omega), pk_un (by omega), pk_un (by omega)]
  have a2 : ∀ z : Nat → Int32, st2 k z j = z j := fun z => by
    unfold st2
    split
    · rw [pk_un (by omega)]
    · rw [pk_un (by omega), pk_un (by omega), pk_un (by omega)]
  have a3 : ∀ z : Nat → Int32, st3 k z j = z j := fun z => by unfold st3; rw [pk_un (by omega)]
  unfold step
  rw [a3, a2, a1]
theorem slotB_ge {j N : Nat} (h : 35 + 7 * N ≤ j) : ∀ (n i : Nat) (z G : Nat → Int32), i + n ≤ N → (slotB n i z G).1 j = z j := by
  intro n
  induction n with
  | zero => intro i z G _; rfl
  | succ n ih =>
    intro i z G hb
    show (slotB n (i + 1) _ _).1 j = z j
    rw [ih _ _ _ (by omega), step_ge (by omega)]
theorem slotD_ge {j : Nat} {z : Nat → Int32} (h : 35 + 7 * nOf z ≤ j) : slotD z j = z j := by
  unfold slotD
  split
  · rfl
  · split
    · rfl
    · exact stopTo_ge h
theorem slot_ge {v a : Int32} {z G : Nat → Int32} {j : Nat} (hz : zOK z) (h : 35 + 7 * nOf z ≤ j) : (slot v a z G).1 j = z j := by
  have h2 := hz.2.2.2.2.2.1
  show slotD (slotC _) j = z j
  rw [slotD_ge (by rw [slotC_n, slotB_n, slotA_n]; exact h), slotC_lt (by omega), slotB_ge h _ _ _ _ (by rw [slotA_n]; omega), slotA_ge h _ _ _ (by omega)]
theorem cycL_ge {a : Int32} {j : Nat} : ∀ (n i : Nat) (z G : Nat → Int32) (x lo hi : Int32), zOK z → 35 + 7 * nOf z ≤ j → (cycL a n i z G x lo hi).1 j = z j := by
  intro n
  induction n with
  | zero => intro i z G x lo hi _ _; rfl
  | succ n ih =>
    intro i z G x lo hi hz h
    show (cycL a n (i + 1) _ _ _ _ _).1 j = z j
    rw [ih _ _ _ _ _ _ (slot_OK hz) (by rw [slot_n]; exact h), slot_ge hz h]
theorem recL_ge {j : Nat} (h : 159 ≤ j) : ∀ (n : Nat) (z : Nat → Int32), n ≤ 90 → recL n z j = z j := by
  intro n
  induction n with
  | zero => intro z _; rfl
  | succ n ih =>
    intro z hn
    show recL n _ j = z j
    rw [ih _ (by omega), pk_un (by omega)]
theorem recordZ_ge {v : Int32} {j : Nat} {z : Nat → Int32} (h : 159 ≤ j) : recordZ v z j = z j := by
  unfold recordZ
  rw [pk_un (by omega), pk_un (by omega), pk_un (by omega), pk_un (by omega), pk_un (by omega), pk_un (by omega), pk_un (by omega), recL_ge h _ _ (Nat.le_refl _)]
theorem cycle_ge {z G : Nat → Int32} {j : Nat} (hz : zOK z) (h : 159 ≤ j) : (cycle z G).1 j = z j := by
  show recordZ _ _ j = z j
  have h1 := cy1_OK hz
  have h2 := aim_OK h1
  have h0 := hz.2.2.1
  rw [recordZ_ge h, pk_un (by omega), pk_un (by omega), pk_un (by omega), pk_un (by omega), cycL_ge _ _ _ _ _ _ _ (cy3_OK h2) (by rw [cy3_n, aim_n, cy1_n]; omega), cy3_ge h2 (by rw [aim_n, cy1_n]; omega), aim_lt (by omega) (by omega), cy1_ge (by omega)]
theorem kpL_eq (z : Nat → Int32) : ∀ (n i : Nat) (a : Nat → Int32) (j : Nat), kpL z n i a j = if i ≤ j ∧ j < i + n then z j else a j := by
  intro n
  induction n with
  | zero => intro i a j; rw [if_neg (by omega)]; rfl
  | succ n ih =>
    intro i a j
    show kpL z n (i + 1) _ j = _
    rw [ih]
    by_cases h : i + 1 ≤ j ∧ j < i + 1 + n
    · rw [if_pos h, if_pos (by omega)]
    · rw [if_neg h]
      by_cases h2 : j = i
      · subst h2; rw [pk_us, if_pos (by omega)]
      · rw [pk_un h2, if_neg (by omega)]
/-- kept, and taken back -/
theorem tb_eq {z a zc : Nat → Int32} (h : ∀ k, 159 ≤ k → zc k = z k) : kpL (kpL z 159 0 a) 159 0 zc = z := by
  funext j
  rw [kpL_eq, kpL_eq]
  by_cases hj : j < 159
  · rw [if_pos (by omega), if_pos (by omega)]
  · rw [if_neg (by omega)]; exact h j (by omega)
theorem setZ_OK {v w : Int32} {z : Nat → Int32} (hz : zOK z) : zOK (setZ v w z) := by
  unfold setZ
  split
  · exact hz
  · rename_i h1
    split
    · exact hz
    · rename_i h2
      obtain ⟨-, hk⟩ := inRg_ix (n := 14) rfl h1
      have hlow := (inRg_ok h2).1
      generalize hke : v.toNatClampNeg = k at hk hlow ⊢
      have nz : ∀ x : Int32, lowT k = x → 0 < x → ¬ w = 0 := by
        intro x e1 e2 e3
        rw [e1, e3] at hlow
        exact hlow e2
      have h15 : k ≠ 15 := by omega
      have h16 : k ≠ 16 := by omega
      by_cases k0 : k = 0
      · subst k0
        refine ⟨?_, ?_, ?_, ?_, ?_, ?_, ?_, ?_, ?_⟩
        all_goals first | exact hz.1 | exact hz.2.1 | exact hz.2.2.1 | exact hz.2.2.2.1 | exact hz.2.2.2.2.1 | exact hz.2.2.2.2.2.1 | exact hz.2.2.2.2.2.2.2.1 | exact hz.2.2.2.2.2.2.2.2 | skip
        exact nz 1000 rfl (by decide)
      · by_cases k3 : k = 3
        · subst k3
          refine ⟨hz.1, hz.2.1, hz.2.2.1, hz.2.2.2.1, hz.2.2.2.2.1, hz.2.2.2.2.2.1, hz.2.2.2.2.2.2.1, nz 1 rfl (by decide), hz.2.2.2.2.2.2.2.2⟩
        · by_cases k4 : k = 4
          · subst k4
            refine ⟨hz.1, hz.2.1, hz.2.2.1, hz.2.2.2.1, hz.2.2.2.2.1, hz.2.2.2.2.2.1, hz.2.2.2.2.2.2.1, hz.2.2.2.2.2.2.2.1, nz 1 rfl (by decide)⟩
          · exact upd_OK hz h15 h16 k0 k3 k4
theorem startL_lt {j : Nat} (h : j < 35) : ∀ (n i : Nat) (z : Nat → Int32), startL n i z j = z j := by
  intro n
  induction n with
  | zero => intro i z; rfl
  | succ n ih =>
    intro i z
    show startL n (i + 1) _ j = z j
    rw [ih, pk_un (by omega)]
theorem startZ_OK {z : Nat → Int32} (hz : zOK z) : zOK (startZ z) := by
  have e : ∀ j, j < 35 → j ≠ 16 → j ≠ 30 → j ≠ 29 → j ≠ 19 → j ≠ 18 → j ≠ 20 → startZ z j = z j := by
    intro j h a1 a2 a3 a4 a5 a6
    unfold startZ
    rw [startL_lt h, pk_un a1, pk_un a2, pk_un a3, pk_un a4, pk_un a5, pk_un a6]
  have e16 : startZ z 16 = z 15 := by
    unfold startZ
    rw [startL_lt (by omega), pk_us]
  have e15 := e 15 (by omega) (by omega) (by omega) (by omega) (by omega) (by omega) (by omega)
  have en : nOf (startZ z) = nOf z := by unfold nOf; rw [e15]
  have em : mOf (startZ z) = nOf z := by unfold mOf nOf; rw [e16]
  refine ⟨by rw [en, e15]; exact hz.1, by rw [en]; exact hz.2.1, by rw [en]; exact hz.2.2.1, by rw [em, e16]; exact hz.1, by rw [em]; exact hz.2.1, by rw [em, en]; exact Nat.le_refl _, ?_, ?_, ?_⟩
  · rw [e 0 (by omega) (by omega) (by omega) (by omega) (by omega) (by omega) (by omega)]; exact hz.2.2.2.2.2.2.1
  · rw [e 3 (by omega) (by omega) (by omega) (by omega) (by omega) (by omega) (by omega)]; exact hz.2.2.2.2.2.2.2.1
  · rw [e 4 (by omega) (by omega) (by omega) (by omega) (by omega) (by omega) (by omega)]; exact hz.2.2.2.2.2.2.2.2
theorem runL_OK : ∀ (n : Nat) (z G : Nat → Int32), zOK z → zOK (runL n z G).1 := by
  intro n
  induction n with
  | zero => intro z G h; exact h
  | succ n ih => intro z G h; exact ih _ _ (cycle_OK h)
theorem runF_OK {v : Int32} {z G : Nat → Int32} (h : zOK z) : zOK (runF v z G).1 := by
  unfold runF
  split
  · exact h
  · split
    · exact runL_OK _ _ _ h
    · exact h
theorem doesF_OK {v w : Int32} {z G : Nat → Int32} (h : zOK z) : zOK (doesF v w z G).1 := by
  unfold doesF
  split
  · exact runF_OK h
  · split
    · dsimp only
      split
      · exact startZ_OK h
      · exact h
    · split
      · exact stopTo_OK h
      · exact setZ_OK h
/-- a cycle writes of the object's numbers 5 to 7 alone -/
theorem slotB_G {k : Nat} (h : k ≠ 7) : ∀ (n i : Nat) (z G : Nat → Int32), (slotB n i z G).2 k = G k := by
  intro n
  induction n with
  | zero => intro i z G; rfl
  | succ n ih =>
    intro i z G
    show (slotB n (i + 1) _ _).2 k = G k
    rw [ih, pk_un h]
theorem slot_G {v a : Int32} {z G : Nat → Int32} {k : Nat} (h5 : k ≠ 5) (h6 : k ≠ 6) (h7 : k ≠ 7) : (slot v a z G).2 k = G k := by
  show slotG _ _ k = G k
  unfold slotG
  rw [pk_un h6, pk_un h5, slotB_G h7]
theorem cycL_G {a : Int32} {k : Nat} (h5 : k ≠ 5) (h6 : k ≠ 6) (h7 : k ≠ 7) : ∀ (n i : Nat) (z G : Nat → Int32) (x lo hi : Int32), (cycL a n i z G x lo hi).2.1 k = G k := by
  intro n
  induction n with
  | zero => intro i z G x lo hi; rfl
  | succ n ih =>
    intro i z G x lo hi
    show (cycL a n (i + 1) _ _ _ _ _).2.1 k = G k
    rw [ih, slot_G h5 h6 h7]
theorem cycle_G {z G : Nat → Int32} {k : Nat} (h5 : k ≠ 5) (h6 : k ≠ 6) (h7 : k ≠ 7) : (cycle z G).2 k = G k := by
  have e : (cycle z G).2 = (cycL (aim (cy1 z) 22) 20 0 (cy3 (aim (cy1 z))) G 0 1000000 (-1)).2.1 := rfl
  rw [e]
  exact cycL_G h5 h6 h7 _ _ _ _ _ _ _
theorem runL_G {k : Nat} (h5 : k ≠ 5) (h6 : k ≠ 6) (h7 : k ≠ 7) : ∀ (n : Nat) (z G : Nat → Int32), (runL n z G).2 k = G k := by
  intro n
  induction n with
  | zero => intro z G; rfl
  | succ n ih =>
    intro z G
    show (runL n _ _).2 k = G k
    rw [ih, cycle_G h5 h6 h7]
theorem layE_k {G : Nat → Int32} {k : Nat} (h5 : k ≠ 5) (h6 : k ≠ 6) (h7 : k ≠ 7) : layE G k = G k := by
  unfold layE
  rw [pk_un h7, pk_un h6, pk_un h5]
theorem runF_G {v : Int32} {z G : Nat → Int32} {k : Nat} (h0 : k ≠ 0) (h5 : k ≠ 5) (h6 : k ≠ 6) (h7 : k ≠ 7) : (runF v z G).2 k = G k := by
  unfold runF
  split
  · exact pk_un h0
  · split
    · rw [runL_G h5 h6 h7, layE_k h5 h6 h7, pk_un h0]
    · exact pk_un h0
theorem doesF_G {v w : Int32} {z G : Nat → Int32} {k : Nat} (h0 : k ≠ 0) (h5 : k ≠ 5) (h6 : k ≠ 6) (h7 : k ≠ 7) : (doesF v w z G).2 k = G k := by
  unfold doesF
  split
  · exact runF_G h0 h5 h6 h7
  · split
    · exact pk_un h0
    · split
      · exact pk_un h0
      · exact pk_un h0
