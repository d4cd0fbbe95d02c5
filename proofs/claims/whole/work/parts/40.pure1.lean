/-! The class's slots against the reference's. -/
/-- the greater of two -/
def mx (a b : Int32) : Int32 := if b ≤ a then a else b
theorem mx_lt (q c : Int32) : (if q < c then c else q) = mx q c := by
  unfold mx
  by_cases h : q < c
  · rw [if_pos h, if_neg (Int32.not_le.mpr h)]
  · rw [if_neg h, if_pos (Int32.not_lt.mp h)]
theorem mx_toInt (a b : Int32) : (mx a b).toInt = max a.toInt b.toInt := by
  unfold mx
  by_cases h : b ≤ a
  · rw [if_pos h]
    have := Int32.le_iff_toInt_le.mp h
    omega
  · rw [if_neg h]
    have := Int32.lt_iff_toInt_lt.mp (Int32.not_le.mp h)
    omega
theorem mx_assoc (a b c : Int32) : mx (mx a b) c = mx a (mx b c) := by
  apply Int32.toInt_inj.mp
  rw [mx_toInt, mx_toInt, mx_toInt, mx_toInt]
  omega
theorem step_ne {k p j : Nat} {z : Nat → Int32} (hp : p ≠ k) (hj : j < 7) : step k z (35 + 7 * p + j) = z (35 + 7 * p + j) := by
  have o1 : st1 k z (35 + 7 * p + j) = z (35 + 7 * p + j) := by
    unfold st1
    repeat' split
    all_goals first | rfl | (repeat rw [pk_un (by omega)])
  have o2 : ∀ y : Nat → Int32, st2 k y (35 + 7 * p + j) = y (35 + 7 * p + j) := by
    intro y
    unfold st2
    repeat' split
    all_goals first | rfl | (repeat rw [pk_un (by omega)])
  have o3 : ∀ y : Nat → Int32, st3 k y (35 + 7 * p + j) = y (35 + 7 * p + j) := by
    intro y
    unfold st3
    rw [pk_un (by omega)]
  unfold step
  rw [o3, o2, o1]
theorem mvL_B (κ : Int32) : ∀ (n i : Nat) (z G : Nat → Int32) (q x : Int32), q = mx κ (G 7) → (mvL n i z q x).1 = (slotB n i z G).1 ∧ (mvL n i z q x).2.1 = mx κ ((slotB n i z G).2 7) := by
  intro n
  induction n with
  | zero => intro i z G q x h; exact ⟨rfl, h⟩
  | succ n ih =>
    intro i z G q x h
    refine ih (i + 1) (step i z) (upd G 7 (sgI i z G)) _ _ ?_
    rw [mx_lt, h, mx_assoc, pk_us]
    unfold sgI
    rfl
theorem mvL_keep {p : Nat} : ∀ (n i : Nat) (z : Nat → Int32) (q x : Int32), p < i → (mvL n i z q x).1 (35 + 7 * p + 0) = z (35 + 7 * p + 0) := by
  intro n
  induction n with
  | zero => intro i z q x _; rfl
  | succ n ih =>
    intro i z q x h
    show (mvL n (i + 1) _ _ _).1 _ = _
    rw [ih _ _ _ _ (by omega), step_ne (by omega) (by omega)]
theorem mvL_sum : ∀ (n i : Nat) (z : Nat → Int32) (q x : Int32), (mvL n i z q x).2.2 = sumL (mvL n i z q x).1 n i x := by
  intro n
  induction n with
  | zero => intro i z q x; rfl
  | succ n ih =>
    intro i z q x
    show (mvL n (i + 1) _ _ _).2.2 = sumL (mvL n (i + 1) _ _ _).1 n (i + 1) (x + (mvL n (i + 1) _ _ _).1 (35 + 7 * i + 0))
    rw [ih, mvL_keep _ _ _ _ _ (by omega)]
