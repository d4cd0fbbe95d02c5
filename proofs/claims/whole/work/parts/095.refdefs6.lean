theorem plG_OK {G : Nat → Int32} (h : G 12 = nI (itOf G)) (hi : itOf G < 50) : plG G 12 = nI (itOf (plG G)) ∧ itOf (plG G) = itOf G + 1 := by
  have e : plG G 12 = nI (itOf G + 1) := by
    unfold plG endG
    rw [pk_un (by omega), pk_us, pk_un (by omega), h, nI_1]

  have ei : itOf (plG G) = itOf G + 1 := by
    show (plG G 12).toNatClampNeg = itOf G + 1
    rw [e, nI_clamp (by omega)]
  exact ⟨by rw [ei, e], ei⟩
theorem stL_G {b : Int32} {k : Nat} (h5 : k ≠ 5) (h6 : k ≠ 6) (h7 : k ≠ 7) : ∀ (n i : Nat) (y : Int32) (z G : Nat → Int32), (stL b n i y z G).2.2 k = G k := by
  intro n
  induction n with
  | zero => intro i y z G; rfl
  | succ n ih =>
    intro i y z G
    unfold stL
    split
    · rfl
    · rw [ih, cycle_G h5 h6 h7]
theorem stU_G {b : Int32} {z G : Nat → Int32} {k : Nat} (h5 : k ≠ 5) (h6 : k ≠ 6) (h7 : k ≠ 7) : (stU b z G).2.2 k = G k := by
  unfold stU
  rw [stL_G h5 h6 h7, layE_k h5 h6 h7]
