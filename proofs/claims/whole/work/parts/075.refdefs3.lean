/-! The reference's reading of a text, its items, its questions. -/
def itOf (G : Nat → Int32) : Nat := (G 12).toNatClampNeg
/-- behind i characters: as many items at most, and one less where one is open -/
def gOK (i : Nat) (G : Nat → Int32) : Prop := G 12 = nI (itOf G) ∧ itOf G + (if G 8 = 0 then 0 else 1) ≤ i
theorem gOK_0 (G : Nat → Int32) : gOK 0 (upd (upd G 8 0) 12 0) := by
  have e12 : upd (upd G 8 0) 12 0 12 = 0 := pk_us
  have e8 : upd (upd G 8 0) 12 0 8 = 0 := by rw [pk_un (by omega), pk_us]
  have e : itOf (upd (upd G 8 0) 12 0) = 0 := by unfold itOf; rw [e12]; decide
  refine ⟨by rw [e12, e]; rfl, ?_⟩
  rw [e, e8, if_pos rfl]
  omega
theorem gOK_keep {G G' : Nat → Int32} {i : Nat} (h : gOK i G) (e : G' 12 = G 12) : gOK (i + 1) G' := by
  have ei : itOf G' = itOf G := by unfold itOf; rw [e]
  have h2 := h.2
  refine ⟨by rw [e, ei]; exact h.1, ?_⟩
  rw [ei]
  split at h2 <;> split <;> omega
theorem tk_OK {v : Int32} {G r : Nat → Int32} {i : Nat} (h : gOK i G) (hi : i < 50) : gOK (i + 1) (tkF v G (itOf G) r).1 := by
  have rest : gOK (i + 1) (tkRest v G r).1 := by
    have ha : gOK (i + 1) (tkAcc v G r).1 := gOK_keep h (by unfold tkAcc; dsimp only; rw [pk_un (by omega), pk_un (by omega), pk_un (by omega)])
    unfold tkRest
    repeat' split
    all_goals first | exact ha | exact gOK_keep h rfl
  unfold tkF
  split
  · refine gOK_keep h ?_
    dsimp only
    unfold tsG
    split
    · rfl
    · rw [pk_un (by omega), pk_un (by omega), pk_un (by omega), pk_un (by omega)]
  · rename_i h8
    split
    · split
      · exact rest
      · have h2 := h.2
        rw [if_neg h8] at h2
        have e12 : endG G 12 = nI (itOf G + 1) := by unfold endG; rw [pk_un (by omega), pk_us, h.1, nI_1]
        have e8 : endG G 8 = 0 := by unfold endG; rw [pk_us]
        have ei : itOf (endG G) = itOf G + 1 := by
          show (endG G 12).toNatClampNeg = itOf G + 1
          rw [e12, nI_clamp (by omega)]
        refine ⟨by show endG G 12 = nI (itOf (endG G)); rw [ei, e12], ?_⟩
        show itOf (endG G) + (if endG G 8 = 0 then 0 else 1) ≤ i + 1
        rw [ei, e8, if_pos rfl]
        omega
    · exact rest
theorem tkF_3 (v : Int32) (G : Nat → Int32) (it : Nat) (r : Nat → Int32) : (tkF v G it r).1 3 = G 3 := by
  have ha : (tkAcc v G r).1 3 = G 3 := by unfold tkAcc; dsimp only; rw [pk_un (by omega), pk_un (by omega), pk_un (by omega)]
  have rest : (tkRest v G r).1 3 = G 3 := by
    unfold tkRest
    repeat' split
    all_goals first | exact ha | rfl
  unfold tkF
  split
  · dsimp only
    unfold tsG
    split
    · rfl
    · rw [pk_un (by omega), pk_un (by omega), pk_un (by omega), pk_un (by omega)]
  · split
    · split
      · exact rest
      · dsimp only; unfold endG; rw [pk_un (by omega), pk_un (by omega)]
    · exact rest
def rtL (t : Nat → Int32) : Nat → Nat → (Nat → Int32) → (Nat → Int32) → (Nat → Int32) × (Nat → Int32) × Int32
  | 0, i, G, r => (G, r, nI i)
  | n + 1, i, G, r => if (tkF (t i) G (itOf G) r).2.2 = 0 then ((tkF (t i) G (itOf G) r).1, (tkF (t i) G (itOf G) r).2.1, nI i) else rtL t n (i + 1) (tkF (t i) G (itOf G) r).1 (tkF (t i) G (itOf G) r).2.1
/-- the text of L characters, read: the numbers, the items, how many characters were taken -/
def rdF (t : Nat → Int32) (L : Nat) (G r : Nat → Int32) : (Nat → Int32) × (Nat → Int32) × Int32 := rtL t L 0 (upd (upd G 8 0) 12 0) r
def sgnI (v : Int32) : Int32 := if v = 105 then 0 else (if v = 116 then 1 else (if v = 108 then 2 else 5))
def doesF (v w : Int32) (z G : Nat → Int32) : (Nat → Int32) × (Nat → Int32) :=
  if v = 114 then runF w z G else (if v = 115 then (if runsI z = 0 then startZ z else z, upd G 0 (if runsI z = 0 then 0 else 1)) else (if v = 120 then (stopTo 0 z, upd G 0 0) else (setZ (sgnI v) w z, upd G 0 (setT (sgnI v) w))))
def doesR (v w : Int32) (z G : Nat → Int32) : Int32 := if (doesF v w z G).2 0 = 0 then 1 else 0
theorem placeT_lt {k : Nat} (h : k < 15) : placeT k < 159 := by
  obtain rfl | rfl | rfl | rfl | rfl | rfl | rfl | rfl | rfl | rfl | rfl | rfl | rfl | rfl | rfl : k = 0 ∨ k = 1 ∨ k = 2 ∨ k = 3 ∨ k = 4 ∨ k = 5 ∨ k = 6 ∨ k = 7 ∨ k = 8 ∨ k = 9 ∨ k = 10 ∨ k = 11 ∨ k = 12 ∨ k = 13 ∨ k = 14 := by omega
  all_goals decide
theorem inRg_ixm {v : Int32} {K : Nat} (hK : K < 2 ^ 30) (h : ¬ inRg v 0 (nI K - 1) = 0) : nI v.toNatClampNeg = v ∧ v.toNatClampNeg < K := by
  obtain ⟨h1, h2⟩ := inRg_ok h
  obtain ⟨j, hj, rfl⟩ := nI_of h1
  have h3 := int_nlt h2
  rw [Int32.le_iff_toInt_le, nI_toInt hj, show (1 : Int32) = nI 1 from rfl, pk_sub_toInt hK (by omega)] at h3
  rw [nI_clamp hj]
  exact ⟨rfl, by omega⟩
theorem ix63 {v w : Int32} {k j : Nat} (h1 : nI k = v) (h2 : nI j = w) : 63 + 6 * v + w = nI (63 + 6 * k + j) := by
  subst h1; subst h2
  rw [show (63 : Int32) = nI 63 from rfl, show (6 : Int32) = nI 6 from rfl, pk_mul, nI_add, nI_add]
/-- a row copied -/
def kpL (z : Nat → Int32) : Nat → Nat → (Nat → Int32) → (Nat → Int32)
  | 0, _, a => a
  | n + 1, i, a => kpL z n (i + 1) (upd a i (z i))
def unL (z : Nat → Int32) : Nat → Nat → Int32 → Int32 → Int32
  | 0, _, lo, hi => hi - lo
  | n + 1, i, lo, hi => unL z n (i + 1) (if lo ≤ z (35 + 7 * i + 0) then lo else z (35 + 7 * i + 0)) (if z (35 + 7 * i + 0) ≤ hi then hi else z (35 + 7 * i + 0))
def unlike (z : Nat → Int32) : Int32 := unL z (mOf z - 1) 1 (z (35 + 7 * 0 + 0)) (z (35 + 7 * 0 + 0))
