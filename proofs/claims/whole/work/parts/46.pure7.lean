def lOK (z : Nat → Int32) : Prop := z 25 = limS z ∧ z 26 = skpS z
theorem lOK_of {z y : Nat → Int32} (h : lOK z) (hn : y 15 = z 15) (h4 : ∀ p, y (35 + 7 * p + 4) = z (35 + 7 * p + 4)) (h5 : ∀ p, y (35 + 7 * p + 5) = z (35 + 7 * p + 5)) (e25 : y 25 = z 25) (e26 : y 26 = z 26) : lOK y := by
  refine ⟨?_, ?_⟩
  · rw [e25, h.1]
    unfold limS
    rw [nOf_of hn]
    exact (sumJ_congr _ _ _ (fun p _ _ => h4 p)).symm
  · rw [e26, h.2]
    unfold skpS
    rw [nOf_of hn]
    exact (sumJ_congr _ _ _ (fun p _ _ => h5 p)).symm
theorem upd_l {k : Nat} {v : Int32} {z : Nat → Int32} (h : lOK z) (h1 : k ≠ 15) (h2 : k ≠ 25) (h3 : k ≠ 26) (h4 : ∀ p, k ≠ 35 + 7 * p + 4) (h5 : ∀ p, k ≠ 35 + 7 * p + 5) : lOK (upd z k v) :=
  lOK_of h (pk_un (Ne.symm h1)) (fun p => pk_un (Ne.symm (h4 p))) (fun p => pk_un (Ne.symm (h5 p))) (pk_un (Ne.symm h2)) (pk_un (Ne.symm h3))
theorem st1_l {k : Nat} {z : Nat → Int32} (hk : k < nOf z) (h : lOK z) : lOK (st1 k z) := by
  unfold st1
  split
  · exact h
  · split
    · exact h
    · obtain ⟨y, ey⟩ : ∃ y : Nat → Int32, y = upd (upd (upd z (35 + 7 * k + 1) 0) (35 + 7 * k + 4) (z (35 + 7 * k + 4) + 1)) 25 (z 25 + 1) := ⟨_, rfl⟩
      rw [← ey]
      have y25 : y 25 = z 25 + 1 := by rw [ey, pk_us]
      have yo : ∀ j, j ≠ 25 → j ≠ 35 + 7 * k + 4 → j ≠ 35 + 7 * k + 1 → y j = z j := fun j a b c => by rw [ey, pk_un a, pk_un b, pk_un c]
      have y4 : y (35 + 7 * k + 4) = z (35 + 7 * k + 4) + 1 := by rw [ey, pk_un (by omega), pk_us]
      have hn : nOf y = nOf z := nOf_of (yo 15 (by omega) (by omega) (by omega))
      refine ⟨?_, ?_⟩
      · rw [y25, h.1]
        unfold limS
        rw [hn]
        exact (sumJ_up (j := 4) (k := k) (z := z) (y := y) y4 (fun p hp => yo _ (by omega) (by omega) (by omega)) (nOf z) 0 0 (by omega) (by omega)).symm
      · rw [yo 26 (by omega) (by omega) (by omega), h.2]
        unfold skpS
        rw [hn]
        exact (sumJ_congr (j := 5) (z := y) (y := z) (nOf z) 0 0 (fun p _ _ => yo _ (by omega) (by omega) (by omega))).symm
theorem st2_l {k : Nat} {z : Nat → Int32} (h : lOK z) : lOK (st2 k z) := by
  unfold st2
  split
  · exact upd_l h (by omega) (by omega) (by omega) (by omega) (by omega)
  · exact upd_l (upd_l (upd_l h (by omega) (by omega) (by omega) (by omega) (by omega)) (by omega) (by omega) (by omega) (by omega) (by omega)) (by omega) (by omega) (by omega) (by omega) (by omega)
theorem step_l {k : Nat} {z : Nat → Int32} (hk : k < nOf z) (h : lOK z) : lOK (step k z) := by
  unfold step st3
  exact upd_l (st2_l (st1_l hk h)) (by omega) (by omega) (by omega) (by omega) (by omega)
