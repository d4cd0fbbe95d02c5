theorem aim_l {z : Nat → Int32} (h : lOK z) : lOK (aim z) := by
  have e : ∀ j, j ≠ 18 → j ≠ 20 → aim z j = z j := fun j a b => aim_lt (by omega) (by omega)
  exact lOK_of h (e _ (by omega) (by omega)) (fun p => e _ (by omega) (by omega)) (fun p => e _ (by omega) (by omega)) (e _ (by omega) (by omega)) (e _ (by omega) (by omega))
theorem choose_l {z : Nat → Int32} (h : lOK z) : lOK (choose z) := by
  have c : ∀ (v : Int32) (y : Nat → Int32), lOK y → lOK (changePh v y) := fun v y hy => by
    unfold changePh
    exact upd_l (upd_l (upd_l (upd_l hy (by omega) (by omega) (by omega) (by omega) (by omega)) (by omega) (by omega) (by omega) (by omega) (by omega)) (by omega) (by omega) (by omega) (by omega) (by omega)) (by omega) (by omega) (by omega) (by omega) (by omega)
  unfold choose
  split
  · exact c _ _ (upd_l h (by omega) (by omega) (by omega) (by omega) (by omega))
  · split
    · exact upd_l (c _ _ (upd_l (upd_l h (by omega) (by omega) (by omega) (by omega) (by omega)) (by omega) (by omega) (by omega) (by omega) (by omega))) (by omega) (by omega) (by omega) (by omega) (by omega)
    · exact upd_l (upd_l h (by omega) (by omega) (by omega) (by omega) (by omega)) (by omega) (by omega) (by omega) (by omega) (by omega)
theorem cy1_l {z : Nat → Int32} (h : lOK z) : lOK (cy1 z) := by
  unfold cy1
  repeat' split
  · exact h
  · exact h
  · exact stopTo_l h
