theorem bpSkip_l {k : Nat} {z : Nat → Int32} (hk : k < nOf z) (h : lOK z) : lOK (bpSkip k z) := by
  unfold bpSkip
  obtain ⟨y, ey⟩ : ∃ y : Nat → Int32, y = upd (upd (upd z (35 + 7 * k + 1) 0) (35 + 7 * k + 5) (z (35 + 7 * k + 5) + 1)) 26 (z 26 + 1) := ⟨_, rfl⟩
  rw [← ey]
  have y26 : y 26 = z 26 + 1 := by rw [ey, pk_us]
  have yo : ∀ j, j ≠ 26 → j ≠ 35 + 7 * k + 5 → j ≠ 35 + 7 * k + 1 → y j = z j := fun j a b c => by rw [ey, pk_un a, pk_un b, pk_un c]
  have y5 : y (35 + 7 * k + 5) = z (35 + 7 * k + 5) + 1 := by rw [ey, pk_un (by omega), pk_us]
  have hn : nOf y = nOf z := nOf_of (yo 15 (by omega) (by omega) (by omega))
  refine ⟨?_, ?_⟩
  · rw [yo 25 (by omega) (by omega) (by omega), h.1]
    unfold limS
    rw [hn]
    exact (sumJ_congr (j := 4) (z := y) (y := z) (nOf z) 0 0 (fun p _ _ => yo _ (by omega) (by omega) (by omega))).symm
  · rw [y26, h.2]
    unfold skpS
    rw [hn]
    exact (sumJ_up (j := 5) (k := k) (z := z) (y := y) y5 (fun p hp => yo _ (by omega) (by omega) (by omega)) (nOf z) 0 0 (by omega) (by omega)).symm
theorem bpGo_l {k : Nat} {z : Nat → Int32} (h : lOK z) : lOK (bpGo k z) := by
  unfold bpGo
  exact upd_l (upd_l (upd_l h (by omega) (by omega) (by omega) (by omega) (by omega)) (by omega) (by omega) (by omega) (by omega) (by omega)) (by omega) (by omega) (by omega) (by omega) (by omega)
theorem beginP_l {k : Nat} {a : Int32} {z : Nat → Int32} (hk : k < nOf z) (h : lOK z) : lOK (beginP k a z) := by
  unfold beginP
  repeat' split
  · exact bpGo_l h
  · exact bpSkip_l hk h
  · exact bpGo_l h
  · exact bpSkip_l hk h
theorem sbp_l {v a : Int32} {i : Nat} {z : Nat → Int32} (hk : i < nOf z) (h : lOK z) : lOK (sbp v a i z) := by
  unfold sbp
  repeat' split
  · exact h
  · exact beginP_l hk h
  · exact h
