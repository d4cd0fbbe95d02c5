theorem choose_22 {z : Nat → Int32} : choose z 22 = z 22 := by
  have c : ∀ (v : Int32) (y : Nat → Int32), changePh v y 22 = y 22 := fun v y => by unfold changePh; rw [pk_un (by omega), pk_un (by omega), pk_un (by omega), pk_un (by omega)]
  unfold choose
  split
  · rw [c, pk_un (by omega)]
  · split
    · rw [pk_un (by omega), c, pk_un (by omega), pk_un (by omega)]
    · rw [pk_un (by omega), pk_un (by omega)]
theorem mx_le {a b : Int32} (h : b ≤ a) : mx a b = a := if_pos h
/-- a cycle of the class against the reference's -/
theorem pcF_cyc {z G : Nat → Int32} {l u q : Int32} (hq : q = mx (z 27) (G 7)) :
    (∀ j, j < 63 → j ≠ 23 → j ≠ 27 → j ≠ 31 → pcF z l u q j = (cycle z G).1 j) ∧ (pcU z l u q).2.2.2.1 = mx (z 27) ((cycle z G).2 7) ∧ (cycle z G).1 23 = (pcU z l u q).2.2.1 - (pcU z l u q).2.1 := by
  have h22 : aim (cy1 z) 22 = cy3 (aim (cy1 z)) 22 := by
    unfold cy3
    split
    · rfl
    · rw [choose_22, regulate_lt (by omega) (by omega)]
  obtain ⟨e1, e2, e3, e4⟩ := pcL_cyc (z 27) (aim (cy1 z) 22) 20 0 (cy3 (aim (cy1 z))) G q 0 l u 1000000 (-1) (by omega) hq h22 (Or.inl ⟨rfl, rfl, rfl⟩)
  obtain ⟨e5, e6⟩ := e4 (by omega)
  have hc1 : (cycle z G).2 = (cycL (aim (cy1 z) 22) 20 0 (cy3 (aim (cy1 z))) G 0 1000000 (-1)).2.1 := by
    unfold cycle cyE
    dsimp only
  refine ⟨fun j h1 h2 h3 h4 => ?_, ?_, ?_⟩
  · show pcF z l u q j = recordZ _ _ j
    rw [recordZ_lt h1 h4]
    unfold pcF pcU
    rw [e1, e3]
    by_cases h24 : j = 24
    · subst h24; rw [pk_us, pk_us]
    · rw [pk_un h24, pk_un h24, pk_un h3]
      by_cases h22 : j = 22
      · subst h22; rw [pk_us, pk_un (by omega), pk_us]
      · rw [pk_un h22, pk_un h2, pk_un h22]
  · rw [hc1]
    unfold pcU
    exact e2
  · unfold cycle cyE
    dsimp only
    rw [recordZ_lt (by omega) (by omega), pk_un (by omega), pk_un (by omega), pk_us]
    unfold pcU
    rw [e5, e6]
