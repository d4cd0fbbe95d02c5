theorem cy3_l {z : Nat → Int32} (h : lOK z) : lOK (cy3 z) := by
  unfold cy3
  split
  · exact h
  · have e : ∀ j, j ≠ 19 → j ≠ 21 → regulate z j = z j := fun j a b => regulate_lt (by omega) (by omega)
    exact choose_l (lOK_of h (e _ (by omega) (by omega)) (fun p => e _ (by omega) (by omega)) (fun p => e _ (by omega) (by omega)) (e _ (by omega) (by omega)) (e _ (by omega) (by omega)))
/-- a cycle keeps the sums -/
theorem cycle_l {z G : Nat → Int32} (hz : zOK z) (h : lOK z) : lOK (cycle z G).1 := by
  have hz3 := cy3_OK (aim_OK (cy1_OK hz))
  have h1 := cycL_l (a := aim (cy1 z) 22) 20 0 (cy3 (aim (cy1 z))) G 0 1000000 (-1) hz3 (cy3_l (aim_l (cy1_l h)))
  have h2 := cycL_OK (a := aim (cy1 z) 22) 20 0 (cy3 (aim (cy1 z))) G 0 1000000 (-1) hz3
  unfold cycle cyE
  dsimp only
  generalize cycL (aim (cy1 z) 22) 20 0 (cy3 (aim (cy1 z))) G 0 1000000 (-1) = u at h1 h2 ⊢
  have e : ∀ j, j < 63 → j ≠ 31 → j ≠ 22 → j ≠ 23 → j ≠ 27 → j ≠ 24 → recordZ (u.1 25 - cy3 (aim (cy1 z)) 25) (upd (upd (upd (upd u.1 22 (u.2.2.1 / 20)) 23 (u.2.2.2.2 - u.2.2.2.1)) 27 (if u.2.1 7 ≤ u.1 27 then u.1 27 else u.2.1 7)) 24 (u.1 24 + 1)) j = u.1 j := fun j a b c d f g => by
    rw [recordZ_lt a b, pk_un g, pk_un f, pk_un d, pk_un c]
  exact lOK_of4 h1 h2.2.2.1 (e _ (by omega) (by omega) (by omega) (by omega) (by omega) (by omega)) (fun j a b => e j b (by omega) (by omega) (by omega) (by omega) (by omega)) (e _ (by omega) (by omega) (by omega) (by omega) (by omega) (by omega)) (e _ (by omega) (by omega) (by omega) (by omega) (by omega) (by omega))
