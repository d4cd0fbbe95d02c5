theorem slotA_l {v a : Int32} {N : Nat} : ∀ (n i : Nat) (z : Nat → Int32), nOf z = N → i + n ≤ N → lOK z → lOK (slotA v a n i z) := by
  intro n
  induction n with
  | zero => intro i z _ _ h; exact h
  | succ n ih =>
    intro i z hn hb h
    exact ih (i + 1) (sbp v a i z) ((nOf_of (sbp_lt (by omega) (by omega))).trans hn) (by omega) (sbp_l (by omega) h)
theorem slotB_l {N : Nat} : ∀ (n i : Nat) (z G : Nat → Int32), nOf z = N → i + n ≤ N → lOK z → lOK (slotB n i z G).1 := by
  intro n
  induction n with
  | zero => intro i z G _ _ h; exact h
  | succ n ih =>
    intro i z G hn hb h
    exact ih (i + 1) (step i z) _ ((nOf_of (step_lt (by omega) (by omega))).trans hn) (by omega) (step_l (by omega) h)
theorem stopTo_l {v : Int32} {z : Nat → Int32} (h : lOK z) : lOK (stopTo v z) := by
  have e : ∀ p j, j < 7 → j ≠ 1 → stopTo v z (35 + 7 * p + j) = z (35 + 7 * p + j) := by
    intro p j h1 h2
    unfold stopTo
    rw [stopL_in (N := 0) _ _ _ _ _ h1, if_neg (by omega), pk_un (by omega)]
  exact lOK_of h (stopTo_lt (by omega) (by omega)) (fun p => e p 4 (by omega) (by omega)) (fun p => e p 5 (by omega) (by omega)) (stopTo_lt (by omega) (by omega)) (stopTo_lt (by omega) (by omega))
theorem slotD_l {z : Nat → Int32} (h : lOK z) : lOK (slotD z) := by
  unfold slotD
  repeat' split
  · exact h
  · exact h
  · exact stopTo_l h
theorem slotC_l {z : Nat → Int32} (h : lOK z) : lOK (slotC z) := upd_l h (by omega) (by omega) (by omega) (by omega) (by omega)
