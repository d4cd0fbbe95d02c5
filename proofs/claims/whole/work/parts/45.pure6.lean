/-! The sums over the phases: limit events, skipped pulses. -/
theorem sumJ_congr {j : Nat} {z y : Nat → Int32} : ∀ (n i : Nat) (x : Int32), (∀ p, i ≤ p → p < i + n → z (35 + 7 * p + j) = y (35 + 7 * p + j)) → sumJ j z n i x = sumJ j y n i x := by
  intro n
  induction n with
  | zero => intro i x _; rfl
  | succ n ih =>
    intro i x h
    show sumJ j z n (i + 1) _ = sumJ j y n (i + 1) _
    rw [h i (by omega) (by omega)]
    exact ih _ _ (fun p h1 h2 => h p (by omega) (by omega))
theorem sumJ_add {j : Nat} {z : Nat → Int32} : ∀ (n i : Nat) (x y : Int32), sumJ j z n i (x + y) = sumJ j z n i x + y := by
  intro n
  induction n with
  | zero => intro i x y; rfl
  | succ n ih =>
    intro i x y
    show sumJ j z n (i + 1) (x + y + z (35 + 7 * i + j)) = sumJ j z n (i + 1) (x + z (35 + 7 * i + j)) + y
    rw [← ih, Int32.add_assoc, Int32.add_comm y, Int32.add_assoc]
/-- one phase's number goes up by one -/
theorem sumJ_up {j k : Nat} {z y : Nat → Int32} (hy : y (35 + 7 * k + j) = z (35 + 7 * k + j) + 1) (ho : ∀ p, p ≠ k → y (35 + 7 * p + j) = z (35 + 7 * p + j)) : ∀ (n i : Nat) (x : Int32), i ≤ k → k < i + n → sumJ j y n i x = sumJ j z n i x + 1 := by
  intro n
  induction n with
  | zero => intro i x h1 h2; omega
  | succ n ih =>
    intro i x h1 h2
    show sumJ j y n (i + 1) (x + y (35 + 7 * i + j)) = sumJ j z n (i + 1) (x + z (35 + 7 * i + j)) + 1
    by_cases e : i = k
    · subst e
      rw [hy, ← Int32.add_assoc, sumJ_add, sumJ_congr _ _ _ (fun p h3 h4 => ho p (by omega))]
    · rw [ho i e]
      exact ih _ _ (by omega) (by omega)
