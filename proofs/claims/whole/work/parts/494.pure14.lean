/-! A cycle of the class beside the reference's. -/
def mn (a b : Int32) : Int32 := if a ≤ b then a else b
theorem mn_toInt (a b : Int32) : (mn a b).toInt = min a.toInt b.toInt := by
  unfold mn
  by_cases h : a ≤ b
  · rw [if_pos h]
    have := Int32.le_iff_toInt_le.mp h
    omega
  · rw [if_neg h]
    have := Int32.lt_iff_toInt_lt.mp (Int32.not_le.mp h)
    omega
theorem mn_assoc (a b c : Int32) : mn (mn a b) c = mn a (mn b c) := by
  apply Int32.toInt_inj.mp
  rw [mn_toInt, mn_toInt, mn_toInt, mn_toInt]
  omega
theorem mn_lt {a b w : Int32} : mn a b < w ↔ a < w ∨ b < w := by
  rw [Int32.lt_iff_toInt_lt, Int32.lt_iff_toInt_lt, Int32.lt_iff_toInt_lt, mn_toInt]
  omega
theorem slot_2 {v a : Int32} {z G : Nat → Int32} : (slot v a z G).2 = slotG (slot v a z G).1 (slotB (nOf (slotA v a (mOf z) 0 z)) 0 (slotA v a (mOf z) 0 z) G).2 := by
  unfold slot slotT slotE
  dsimp only
theorem slot_5 {v a : Int32} {z G : Nat → Int32} : (slot v a z G).2 5 = mn (G 5) ((slot v a z G).1 17) := by
  rw [slot_2]
  unfold slotG mn
  rw [pk_un (by omega), pk_us, slotB_G (by omega)]
theorem slot_6 {v a : Int32} {z G : Nat → Int32} : (slot v a z G).2 6 = mx (G 6) ((slot v a z G).1 17) := by
  rw [slot_2]
  unfold slotG mx
  rw [pk_us, slotB_G (by omega)]
theorem loI_mn {i : Nat} {z G : Nat → Int32} {y a : Int32} : loI i z G y a = mn y ((slot (nI i) a z G).1 17) := rfl
theorem hiI_mx {i : Nat} {z G : Nat → Int32} {y a : Int32} : hiI i z G y a = mx y ((slot (nI i) a z G).1 17) := rfl
theorem cycL_5 (a : Int32) : ∀ (n i : Nat) (z G : Nat → Int32) (x lo hi g5 : Int32), G 5 = mn g5 lo → (cycL a n i z G x lo hi).2.1 5 = mn g5 (cycL a n i z G x lo hi).2.2.2.1 := by
  intro n
  induction n with
  | zero => intro i z G x lo hi g5 h5; exact h5
  | succ n ih =>
    intro i z G x lo hi g5 h5
    rw [cycL]
    refine ih _ _ _ _ _ _ _ ?_
    rw [slot_5, h5, mn_assoc, loI_mn]
theorem cycL_6 (a : Int32) : ∀ (n i : Nat) (z G : Nat → Int32) (x lo hi g6 : Int32), G 6 = mx g6 hi → (cycL a n i z G x lo hi).2.1 6 = mx g6 (cycL a n i z G x lo hi).2.2.2.2 := by
  intro n
  induction n with
  | zero => intro i z G x lo hi g6 h6; exact h6
  | succ n ih =>
    intro i z G x lo hi g6 h6
    rw [cycL]
    refine ih _ _ _ _ _ _ _ ?_
    rw [slot_6, h6, mx_assoc, hiI_mx]
theorem mn_rg {x v : Int32} (h : ¬ 40000 < v) : ¬ 40000 < mn x v := by
  rw [Int32.lt_iff_toInt_lt] at h ⊢
  rw [mn_toInt]
  omega
theorem mx_rg {x v : Int32} (h : ¬ v < 0) : ¬ mx x v < 0 := by
  rw [Int32.lt_iff_toInt_lt] at h ⊢
  rw [mx_toInt]
  omega
theorem cycL_rg (a : Int32) : ∀ (n i : Nat) (z G : Nat → Int32) (x lo hi : Int32), ((¬ 40000 < lo ∧ ¬ hi < 0 ∧ ¬ z 17 < 0 ∧ ¬ 40000 < z 17) ∨ 0 < n) →
    ¬ 40000 < (cycL a n i z G x lo hi).2.2.2.1 ∧ ¬ (cycL a n i z G x lo hi).2.2.2.2 < 0 ∧ ¬ (cycL a n i z G x lo hi).1 17 < 0 ∧ ¬ 40000 < (cycL a n i z G x lo hi).1 17 := by
  intro n
  induction n with
  | zero =>
    intro i z G x lo hi h
    rcases h with h | h
    · exact h
    · omega
  | succ n ih =>
    intro i z G x lo hi _
    have hs := slot_17 (v := nI i) (a := a) (z := z) (G := G)
    rw [cycL]
    refine ih _ _ _ _ _ _ (Or.inl ⟨?_, ?_, hs.1, hs.2⟩)
    · rw [loI_mn]; exact mn_rg hs.2
    · rw [hiI_mx]; exact mx_rg hs.1
theorem mn_first {a : Int32} (h : ¬ 1000000 < a) : a = mn a 1000000 := by
  apply Int32.toInt_inj.mp
  rw [Int32.lt_iff_toInt_lt] at h
  rw [mn_toInt]
  have e1 : (1000000 : Int32).toInt = 1000000 := by decide
  omega
theorem mx_first {a : Int32} (h : ¬ a < -1) : a = mx a (-1) := by
  apply Int32.toInt_inj.mp
  rw [Int32.lt_iff_toInt_lt] at h
  rw [mx_toInt]
  have e1 : (-1 : Int32).toInt = -1 := by decide
  omega
theorem cyc_2 {z G : Nat → Int32} : (cycle z G).2 = (cycL (aim (cy1 z) 22) 20 0 (cy3 (aim (cy1 z))) G 0 1000000 (-1)).2.1 := by
  unfold cycle cyE
  dsimp only
theorem cyc_17 {z G : Nat → Int32} : ¬ (cycle z G).1 17 < 0 ∧ ¬ 40000 < (cycle z G).1 17 := by
  have h := cycL_rg (aim (cy1 z) 22) 20 0 (cy3 (aim (cy1 z))) G 0 1000000 (-1) (Or.inr (by omega))
  unfold cycle cyE
  dsimp only
  rw [recordZ_lt (by omega) (by omega), pk_un (by omega), pk_un (by omega), pk_un (by omega), pk_un (by omega)]
  exact h.2.2
/-- a cycle of the class against the reference's, its greatest current counted from any κ -/
theorem pcF_cycK {κ : Int32} {z G : Nat → Int32} {l u q : Int32} (hq : q = mx κ (G 7)) :
    ag (pcF z l u q) (cycle z G).1 ∧ (pcU z l u q).2.2.2.1 = mx κ ((cycle z G).2 7) ∧ (cycle z G).1 23 = (pcU z l u q).2.2.1 - (pcU z l u q).2.1 ∧
    (¬ 1000000 < G 5 → (cycle z G).2 5 = mn (G 5) (pcU z l u q).2.1) ∧ (¬ G 6 < -1 → (cycle z G).2 6 = mx (G 6) (pcU z l u q).2.2.1) ∧ ¬ 40000 < (pcU z l u q).2.1 ∧ ¬ (pcU z l u q).2.2.1 < 0 := by
  have h22 : aim (cy1 z) 22 = cy3 (aim (cy1 z)) 22 := by
    unfold cy3
    split
    · rfl
    · rw [choose_22, regulate_lt (by omega) (by omega)]
  obtain ⟨e1, e2, e3, e4⟩ := pcL_cyc κ (aim (cy1 z) 22) 20 0 (cy3 (aim (cy1 z))) G q 0 l u 1000000 (-1) (by omega) hq h22 (Or.inl ⟨rfl, rfl, rfl⟩)
  obtain ⟨e5, e6⟩ := e4 (by omega)
  have hr := cycL_rg (aim (cy1 z) 22) 20 0 (cy3 (aim (cy1 z))) G 0 1000000 (-1) (Or.inr (by omega))
  have hc : pcU z l u q = pcL 20 0 (cy3 (aim (cy1 z))) l u q 0 := by unfold pcU; rfl
  refine ⟨fun j h => ?_, ?_, ?_, ?_, ?_, ?_, ?_⟩
  · obtain ⟨h1, h2, h3, h4⟩ := h
    show pcF z l u q j = recordZ _ _ j
    rw [recordZ_lt h1 h4]
    unfold pcF pcU
    rw [e1, e3]
    by_cases h24 : j = 24
    · subst h24; rw [pk_us, pk_us]
    · rw [pk_un h24, pk_un h24, pk_un h3]
      by_cases h22 : j = 22
      · subst h22; rw [pk_us, pk_un (by omega), pk_us]
      · rw [pk_un h22, pk_un h2, pk_un h22]
  · rw [cyc_2, hc]
    exact e2
  · rw [hc, e5, e6]
    unfold cycle cyE
    dsimp only
    rw [recordZ_lt (by omega) (by omega), pk_un (by omega), pk_un (by omega), pk_us]
  · intro h
    rw [cyc_2, hc, e5]
    exact cycL_5 _ _ _ _ _ _ _ _ _ (mn_first h)
  · intro h
    rw [cyc_2, hc, e6]
    exact cycL_6 _ _ _ _ _ _ _ _ _ (mx_first h)
  · rw [hc, e5]; exact hr.1
  · rw [hc, e6]; exact hr.2.1
