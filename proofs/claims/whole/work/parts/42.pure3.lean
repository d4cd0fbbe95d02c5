theorem clamp_rg (x : Int32) : ¬ clampI x 0 40000 < 0 ∧ ¬ 40000 < clampI x 0 40000 := by
  unfold clampI
  by_cases h1 : 0 ≤ x
  · rw [if_pos h1]
    by_cases h2 : x ≤ 40000
    · rw [if_pos h2]; exact ⟨Int32.not_lt.mpr h1, Int32.not_lt.mpr h2⟩
    · rw [if_neg h2]; decide
  · rw [if_neg h1]; decide
theorem slot_17 {v a : Int32} {z G : Nat → Int32} : ¬ (slot v a z G).1 17 < 0 ∧ ¬ 40000 < (slot v a z G).1 17 := by
  show ¬ slotD (slotC _) 17 < 0 ∧ ¬ 40000 < slotD (slotC _) 17
  rw [slotD_lt (by omega) (by omega)]
  unfold slotC
  rw [pk_us]
  exact clamp_rg _
theorem lo_same {v y : Int32} : (if v < y then v else y) = (if y ≤ v then y else v) := by
  by_cases h : v < y
  · rw [if_pos h, if_neg (Int32.not_le.mpr h)]
  · rw [if_neg h, if_pos (Int32.not_lt.mp h)]
theorem hi_same {v y : Int32} : (if y < v then v else y) = (if v ≤ y then y else v) := by
  by_cases h : y < v
  · rw [if_pos h, if_neg (Int32.not_le.mpr h)]
  · rw [if_neg h, if_pos (Int32.not_lt.mp h)]
theorem lo_first {v : Int32} (h : ¬ 40000 < v) : (if (1000000 : Int32) ≤ v then 1000000 else v) = v := by
  refine if_neg (fun e => h ?_)
  rw [Int32.lt_iff_toInt_lt]
  have := Int32.le_iff_toInt_le.mp e
  have e1 : (1000000 : Int32).toInt = 1000000 := by decide
  have e2 : (40000 : Int32).toInt = 40000 := by decide
  omega
theorem hi_first {v : Int32} (h : ¬ v < 0) : (if v ≤ (-1 : Int32) then -1 else v) = v := by
  refine if_neg (fun e => h ?_)
  rw [Int32.lt_iff_toInt_lt]
  have := Int32.le_iff_toInt_le.mp e
  have e1 : (-1 : Int32).toInt = -1 := by decide
  have e2 : (0 : Int32).toInt = 0 := by decide
  omega
/-- a cycle's slots are the reference's -/
theorem pcL_cyc (κ a : Int32) : ∀ (n i : Nat) (z G : Nat → Int32) (q x l u lo hi : Int32), i + n < 2 ^ 31 → q = mx κ (G 7) → a = z 22 → ((i = 0 ∧ lo = 1000000 ∧ hi = -1) ∨ (0 < i ∧ l = lo ∧ u = hi)) →
    (pcL n i z l u q x).1 = (cycL a n i z G x lo hi).1 ∧ (pcL n i z l u q x).2.2.2.1 = mx κ ((cycL a n i z G x lo hi).2.1 7) ∧ (pcL n i z l u q x).2.2.2.2 = (cycL a n i z G x lo hi).2.2.1 ∧
      (0 < i + n → (pcL n i z l u q x).2.1 = (cycL a n i z G x lo hi).2.2.2.1 ∧ (pcL n i z l u q x).2.2.1 = (cycL a n i z G x lo hi).2.2.2.2) := by
  intro n
  induction n with
  | zero =>
    intro i z G q x l u lo hi _ hq _ hl
    refine ⟨rfl, hq, rfl, fun hi0 => ?_⟩
    rcases hl with h | h
    · omega
    · exact h.2
  | succ n ih =>
    intro i z G q x l u lo hi hb hq ha hl
    obtain ⟨e1, e2, e3⟩ := pcD_slot (i := i) hq ha
    have hs := slot_17 (v := nI i) (a := a) (z := z) (G := G)
    have hlo : pcLo i (pcD i z q 17) l = loI i z G lo a := by
      rw [e1]
      unfold pcLo loI
      rcases hl with ⟨h1, h2, -⟩ | ⟨h1, h2, -⟩
      · subst h1
        rw [if_pos (show nI 0 = 0 from rfl), h2, lo_first hs.2]
      · rw [if_neg (fun e => by have := (nI_eq (a := i) (b := 0) (by omega) (by omega)).mp e; omega), h2, lo_same]
    have hhi : pcHi i (pcD i z q 17) u = hiI i z G hi a := by
      rw [e1]
      unfold pcHi hiI
      rcases hl with ⟨h1, -, h2⟩ | ⟨h1, -, h2⟩
      · subst h1
        rw [if_pos (show nI 0 = 0 from rfl), h2, hi_first hs.1]
      · rw [if_neg (fun e => by have := (nI_eq (a := i) (b := 0) (by omega) (by omega)).mp e; omega), h2, hi_same]
    have key := ih (i + 1) (slot (nI i) a z G).1 (slot (nI i) a z G).2 (mvF (pcA i z) q).2.1 (x + (mvF (pcA i z) q).2.2) (loI i z G lo a) (hiI i z G hi a) (loI i z G lo a) (hiI i z G hi a) (by omega) e2 (by rw [slot_lt (by omega) (by omega) (by omega) (by omega) (by omega)]; exact ha) (Or.inr ⟨by omega, rfl, rfl⟩)
    have ep : pcL (n + 1) i z l u q x = pcL n (i + 1) (slot (nI i) a z G).1 (loI i z G lo a) (hiI i z G hi a) (mvF (pcA i z) q).2.1 (x + (mvF (pcA i z) q).2.2) := by
      rw [pcL, hlo, hhi, e1]
    have ec : cycL a (n + 1) i z G x lo hi = cycL a n (i + 1) (slot (nI i) a z G).1 (slot (nI i) a z G).2 (x + (mvF (pcA i z) q).2.2) (loI i z G lo a) (hiI i z G hi a) := by
      rw [cycL, e3]
    rw [ep, ec]
    exact ⟨key.1, key.2.1, key.2.2.1, fun _ => key.2.2.2 (by omega)⟩
