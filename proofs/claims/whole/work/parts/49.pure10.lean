theorem lOK_of4 {z y : Nat → Int32} (h : lOK z) (h0 : nOf z ≤ 4) (hn : y 15 = z 15) (ho : ∀ j, 35 ≤ j → j < 63 → y j = z j) (e25 : y 25 = z 25) (e26 : y 26 = z 26) : lOK y := by
  refine ⟨?_, ?_⟩
  · rw [e25, h.1]
    unfold limS
    rw [nOf_of hn]
    exact (sumJ_congr _ _ _ (fun p _ hp => ho _ (by omega) (by omega))).symm
  · rw [e26, h.2]
    unfold skpS
    rw [nOf_of hn]
    exact (sumJ_congr _ _ _ (fun p _ hp => ho _ (by omega) (by omega))).symm
theorem slot_l {v a : Int32} {z G : Nat → Int32} (hz : zOK z) (h : lOK z) : lOK (slot v a z G).1 := by
  have h1 : lOK (slotA v a (mOf z) 0 z) := slotA_l (N := nOf z) _ _ _ rfl (by have := hz.2.2.2.2.2.1; omega) h
  exact slotD_l (slotC_l (slotB_l (N := nOf (slotA v a (mOf z) 0 z)) _ _ _ _ rfl (by omega) h1))
theorem cycL_l {a : Int32} : ∀ (n i : Nat) (z G : Nat → Int32) (x lo hi : Int32), zOK z → lOK z → lOK (cycL a n i z G x lo hi).1 := by
  intro n
  induction n with
  | zero => intro i z G x lo hi _ h; exact h
  | succ n ih => intro i z G x lo hi hz h; exact ih _ _ _ _ _ _ (slot_OK hz) (slot_l hz h)
