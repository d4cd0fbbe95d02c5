theorem slotA_stop {v a : Int32} : ∀ (n i : Nat) (z : Nat → Int32), runsI z = 0 → slotA v a n i z = z := by
  intro n
  induction n with
  | zero => intro i z _; rfl
  | succ n ih =>
    intro i z h
    show slotA v a n (i + 1) (sbp v a i z) = z
    have e : sbp v a i z = z := by
      unfold sbp
      rw [if_pos h]
    rw [e]
    exact ih _ _ h
theorem pcA_slot {i : Nat} {z : Nat → Int32} : pcA i z = slotA (nI i) (z 22) (mOf z) 0 z := by
  unfold pcA
  by_cases h : runsI z = 0
  · rw [if_pos h, slotA_stop _ _ _ h]
  · rw [if_neg h]
theorem sumL_congr {z y : Nat → Int32} (h : ∀ p, z (35 + 7 * p + 0) = y (35 + 7 * p + 0)) : ∀ (n i : Nat) (x : Int32), sumL z n i x = sumL y n i x := by
  intro n
  induction n with
  | zero => intro i x; rfl
  | succ n ih =>
    intro i x
    show sumL z n (i + 1) _ = sumL y n (i + 1) _
    rw [ih, h]
theorem stopTo_cur {v : Int32} {z : Nat → Int32} {p : Nat} : stopTo v z (35 + 7 * p + 0) = z (35 + 7 * p + 0) := by
  unfold stopTo
  rw [stopL_in (N := 0) _ _ _ _ _ (by omega), if_neg (by omega), pk_un (by omega)]
theorem slotD_cur {z : Nat → Int32} {p : Nat} : slotD z (35 + 7 * p + 0) = z (35 + 7 * p + 0) := by
  unfold slotD
  repeat' split
  · rfl
  · rfl
  · exact stopTo_cur
theorem mvV_C {z : Nat → Int32} {x : Int32} (h : x = sumC (nOf z) z) : mvV x z = slotC z := by
  subst h
  rfl
/-- a slot of the class is the reference's -/
theorem pcD_slot {κ q a : Int32} {i : Nat} {z G : Nat → Int32} (h : q = mx κ (G 7)) (ha : a = z 22) :
    pcD i z q = (slot (nI i) a z G).1 ∧ (mvF (pcA i z) q).2.1 = mx κ ((slot (nI i) a z G).2 7) ∧ (mvF (pcA i z) q).2.2 = sumC (nOf (slot (nI i) a z G).1) (slot (nI i) a z G).1 := by
  subst ha
  obtain ⟨e1, e2⟩ := mvL_B κ (nOf (pcA i z)) 0 (pcA i z) G q 0 h
  have e3 : (mvF (pcA i z) q).2.2 = sumC (nOf (mvF (pcA i z) q).1) (mvF (pcA i z) q).1 := by
    rw [mvF_n]
    exact mvL_sum _ _ _ _ _
  have e4 : pcD i z q = slotD (slotC (mvF (pcA i z) q).1) := by
    unfold pcD
    rw [mvV_C e3]
  have e5 : (slot (nI i) (z 22) z G).1 = slotD (slotC (mvF (pcA i z) q).1) := by
    show slotD (slotC (slotB (nOf (slotA (nI i) (z 22) (mOf z) 0 z)) 0 (slotA (nI i) (z 22) (mOf z) 0 z) G).1) = _
    rw [← pcA_slot, ← e1]
    rfl
  refine ⟨by rw [e4, e5], ?_, ?_⟩
  · show (mvL (nOf (pcA i z)) 0 (pcA i z) q 0).2.1 = mx κ ((slotB (nOf (slotA (nI i) (z 22) (mOf z) 0 z)) 0 (slotA (nI i) (z 22) (mOf z) 0 z) G).2 7)
    rw [e2, ← pcA_slot]
  · rw [e3, e5]
    have en : nOf (slotD (slotC (mvF (pcA i z) q).1)) = nOf (mvF (pcA i z) q).1 := by
      rw [slotD_n]
      exact nOf_of (slotC_lt (by omega))
    rw [en]
    exact sumL_congr (fun p => by rw [slotD_cur]; exact (slotC_lt (by omega)).symm) _ _ _
