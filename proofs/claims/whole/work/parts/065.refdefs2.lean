/-! The reference's public methods as functions. -/
theorem lt_of_nle {i b : Nat} (h : ¬ nI b ≤ nI i) (hi : i < 2 ^ 31) : i < b := by
  rcases Nat.lt_or_ge i b with q | q
  · exact q
  · exact absurd (nI_le q hi) h
theorem inRg_ok {v lo hi : Int32} (h : ¬ inRg v lo hi = 0) : ¬ v < lo ∧ ¬ hi < v := by
  unfold inRg at h
  split at h
  · exact absurd rfl h
  · rename_i h1
    split at h
    · exact absurd rfl h
    · rename_i h2
      exact ⟨h1, h2⟩
theorem int_nlt {a b : Int32} (h : ¬ a < b) : b ≤ a := Int32.not_lt.mp h
theorem inRg_ix {v hi : Int32} {n : Nat} (hh : hi.toInt = n) (h : ¬ inRg v 0 hi = 0) : nI v.toNatClampNeg = v ∧ v.toNatClampNeg < n + 1 := by
  obtain ⟨h1, h2⟩ := inRg_ok h
  obtain ⟨j, hj, rfl⟩ := nI_of2 hh h1 (int_nlt h2)
  have hn : n < 2 ^ 31 := by
    have := hi.toInt_lt
    omega
  rw [nI_clamp (by omega)]
  exact ⟨rfl, by omega⟩
theorem inRg_ix1 {v hi : Int32} {n : Nat} (hh : hi.toInt = n) (h : ¬ inRg v 1 hi = 0) : nI v.toNatClampNeg = v ∧ v.toNatClampNeg ≤ n ∧ 1 ≤ v.toNatClampNeg := by
  obtain ⟨h1, h2⟩ := inRg_ok h
  have h0 : ¬ v < 0 := by
    rw [Int32.lt_iff_toInt_lt] at h1 ⊢
    have e1 : (1 : Int32).toInt = 1 := by decide
    have e0 : (0 : Int32).toInt = 0 := by decide
    omega
  obtain ⟨j, hj, rfl⟩ := nI_of2 hh h0 (int_nlt h2)
  have hn : n < 2 ^ 31 := by
    have := hi.toInt_lt
    omega
  rw [nI_clamp (by omega)]
  refine ⟨rfl, hj, ?_⟩
  rcases Nat.eq_zero_or_pos j with q | q
  · subst q; exact absurd (by decide) h1
  · exact q
def frV (i : Nat) : Int32 := if 15 ≤ nI i then 0 else firstT i
def freshL : Nat → Nat → (Nat → Int32) → (Nat → Int32)
  | 0, _, z => z
  | n + 1, i, z => freshL n (i + 1) (upd z i (frV i))
def freshZ (v : Int32) (z : Nat → Int32) : Nat → Int32 := upd (upd (freshL 159 0 z) 15 v) 16 v
def setT (v w : Int32) : Int32 := if inRg v 0 14 = 0 then 1 else (if inRg w (lowT v.toNatClampNeg) (highT v.toNatClampNeg) = 0 then 2 else 0)
def setZ (v w : Int32) (z : Nat → Int32) : Nat → Int32 := if inRg v 0 14 = 0 then z else (if inRg w (lowT v.toNatClampNeg) (highT v.toNatClampNeg) = 0 then z else upd z v.toNatClampNeg w)
def setR (v w : Int32) (z : Nat → Int32) : Int32 := if inRg v 0 14 = 0 then 0 else (if inRg w (lowT v.toNatClampNeg) (highT v.toNatClampNeg) = 0 then 0 else z v.toNatClampNeg)
def startL : Nat → Nat → (Nat → Int32) → (Nat → Int32)
  | 0, _, z => z
  | n + 1, i, z => startL n (i + 1) (upd z (35 + 7 * i + 2) 0)
def startZ (z : Nat → Int32) : Nat → Int32 := startL (nOf z) 0 (upd (upd (upd (upd (upd (upd z 20 1) 18 (z 17)) 19 0) 29 0) 30 0) 16 (z 15))
def runL : Nat → (Nat → Int32) → (Nat → Int32) → (Nat → Int32) × (Nat → Int32)
  | 0, z, G => (z, G)
  | n + 1, z, G => runL n (cycle z G).1 (cycle z G).2
def runF (v : Int32) (z G : Nat → Int32) : (Nat → Int32) × (Nat → Int32) :=
  if inRg v 1 200 = 0 then (z, upd G 0 1) else (if z 24 + v ≤ 100000 then runL v.toNatClampNeg z (layE (upd G 0 0)) else (z, upd G 0 2))
def runR (v : Int32) (z G : Nat → Int32) : Int32 := if inRg v 1 200 = 0 then 0 else (if z 24 + v ≤ 100000 then (runF v z G).1 17 else 0)
def bareI (v : Int32) : Int32 := if v = 115 then 1 else (if v = 120 then 1 else 0)
def isI (v : Int32) : Int32 := if bareI v = 0 then (if v = 105 then 1 else (if v = 116 then 1 else (if v = 108 then 1 else (if v = 99 then 1 else (if v = 114 then 1 else 0))))) else 1
theorem isI_01 (v : Int32) : isI v = 0 ∨ isI v = 1 := by
  unfold isI
  repeat' split
  all_goals first | exact Or.inl rfl | exact Or.inr rfl
def tsG (v : Int32) (G : Nat → Int32) : Nat → Int32 := if isI v = 0 then G else upd (upd (upd (upd G 9 v) 10 0) 11 0) 8 (if bareI v = 0 then 2 else 1)
def endG (G : Nat → Int32) : Nat → Int32 := upd (upd G 12 (G 12 + 1)) 8 0
def endR (it : Nat) (G r : Nat → Int32) : Nat → Int32 := upd (upd r (2 * it) (G 9)) (2 * it + 1) (G 10)
theorem ix2 {x : Int32} {it : Nat} (h : x = nI it) : 2 * x = nI (2 * it) := by rw [h, show (2 : Int32) = nI 2 from rfl, pk_mul]
theorem ix21 {x : Int32} {it : Nat} (h : x = nI it) : 2 * x + 1 = nI (2 * it + 1) := by rw [ix2 h, nI_1]
def tkAcc (v : Int32) (G r : Nat → Int32) : (Nat → Int32) × (Nat → Int32) × Int32 := (upd (upd (upd G 10 (10 * G 10 + v - 48)) 11 (G 11 + 1)) 8 3, r, 1)
def tkRest (v : Int32) (G r : Nat → Int32) : (Nat → Int32) × (Nat → Int32) × Int32 :=
  if inRg v 48 57 = 0 then (G, r, 0) else (if G 8 = 1 then (G, r, 0) else (if G 8 = 3 then (if G 10 = 0 then (G, r, 0) else (if G 11 = 5 then (G, r, 0) else tkAcc v G r)) else tkAcc v G r))
/-- a character is taken, or not: the numbers, the items, the answer -/
def tkF (v : Int32) (G : Nat → Int32) (it : Nat) (r : Nat → Int32) : (Nat → Int32) × (Nat → Int32) × Int32 :=
  if G 8 = 0 then (tsG v G, r, isI v) else (if v = 44 then (if G 8 = 2 then tkRest v G r else (endG G, endR it G r, 1)) else tkRest v G r)
theorem recL_lt {j : Nat} (h : j < 63) : ∀ (n : Nat) (z : Nat → Int32), recL n z j = z j := by
  intro n
  induction n with
  | zero => intro z; rfl
  | succ n ih =>
    intro z
    show recL n _ j = z j
    rw [ih, pk_un (by omega)]
theorem recordZ_lt {v : Int32} {j : Nat} {z : Nat → Int32} (h : j < 63) (h2 : j ≠ 31) : recordZ v z j = z j := by
  unfold recordZ
  rw [pk_un h2, pk_un (by omega), pk_un (by omega), pk_un (by omega), pk_un (by omega), pk_un (by omega), pk_un (by omega), recL_lt h]
theorem recordZ_OK {v : Int32} {z : Nat → Int32} (h : zOK z) : zOK (recordZ v z) := zOK_of h (recordZ_lt (by omega) (by omega)) (recordZ_lt (by omega) (by omega)) (recordZ_lt (by omega) (by omega)) (recordZ_lt (by omega) (by omega)) (recordZ_lt (by omega) (by omega))
theorem cycL_OK {a : Int32} : ∀ (n i : Nat) (z G : Nat → Int32) (x lo hi : Int32), zOK z → zOK (cycL a n i z G x lo hi).1 := by
  intro n
  induction n with
  | zero => intro i z G x lo hi h; exact h
  | succ n ih => intro i z G x lo hi h; exact ih _ _ _ _ _ _ (slot_OK h)
theorem cycle_OK {z G : Nat → Int32} (h : zOK z) : zOK (cycle z G).1 := by
  show zOK (recordZ _ _)
  refine recordZ_OK (upd_OK (upd_OK (upd_OK (upd_OK (cycL_OK _ _ _ _ _ _ _ (cy3_OK (aim_OK (cy1_OK h)))) ?_ ?_ ?_ ?_ ?_) ?_ ?_ ?_ ?_ ?_) ?_ ?_ ?_ ?_ ?_) ?_ ?_ ?_ ?_ ?_) <;> omega
