theorem cycL_keep {a : Int32} {j : Nat} (h : j < 35) (h2 : j ≠ 17) (h3 : j ≠ 20) (h4 : j ≠ 25) (h5 : j ≠ 26) : ∀ (n i : Nat) (z G : Nat → Int32) (x lo hi : Int32), (cycL a n i z G x lo hi).1 j = z j := by
  intro n
  induction n with
  | zero => intro i z G x lo hi; rfl
  | succ n ih =>
    intro i z G x lo hi
    show (cycL a n (i + 1) _ _ _ _ _).1 j = z j
    rw [ih, slot_lt h h2 h3 h4 h5]
theorem choose_27 {z : Nat → Int32} : choose z 27 = z 27 := by
  have c : ∀ (v : Int32) (y : Nat → Int32), changePh v y 27 = y 27 := fun v y => by unfold changePh; rw [pk_un (by omega), pk_un (by omega), pk_un (by omega), pk_un (by omega)]
  unfold choose
  split
  · rw [c, pk_un (by omega)]
  · split
    · rw [pk_un (by omega), c, pk_un (by omega), pk_un (by omega)]
    · rw [pk_un (by omega), pk_un (by omega)]
theorem cy_27 {z : Nat → Int32} : cy3 (aim (cy1 z)) 27 = z 27 := by
  have e3 : ∀ y : Nat → Int32, cy3 y 27 = y 27 := by
    intro y
    unfold cy3
    split
    · rfl
    · rw [choose_27, regulate_lt (by omega) (by omega)]
  have e1 : cy1 z 27 = z 27 := by
    unfold cy1
    repeat' split
    · rfl
    · rfl
    · exact stopTo_lt (by omega) (by omega)
  rw [e3, aim_lt (by omega) (by omega), e1]
/-- the greatest current ever -/
theorem cyc_27 {z G : Nat → Int32} : (cycle z G).1 27 = mx (z 27) ((cycle z G).2 7) := by
  unfold cycle cyE
  dsimp only
  rw [recordZ_lt (by omega) (by omega), pk_un (by omega), pk_us, cycL_keep (by omega) (by omega) (by omega) (by omega) (by omega), cy_27]
  rfl
