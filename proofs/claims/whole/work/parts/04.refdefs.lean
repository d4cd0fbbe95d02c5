/-! The reference's object, and what its methods do, as functions of its numbers. -/
/-- the reference's cells: A 0 the object, A 1 z, A 2 aside, A 3 text, A 4 read -/
abbrev wM (E : EE) (A : Nat → Nat) (G z a t r : Nat → Int32) (h : Int64) : va_W :=
  [(A 0, .inr (5, [.int (G 0), .ref (A 1), .ref (A 2), .int (G 3), .ref (A 3), .int (G 5), .int (G 6), .int (G 7), .int (G 8), .int (G 9), .int (G 10), .int (G 11), .int (G 12), .ref (A 4), .long h])),
   (A 1, .inl (E.2.1, 159, .inl z)), (A 2, .inl (E.2.1, 159, .inl a)), (A 3, .inl (E.2.1, 50, .inl t)), (A 4, .inl (E.2.1, 100, .inl r))]
def inRg (v lo hi : Int32) : Int32 := if v < lo then 0 else if hi < v then 0 else 1
theorem inRg_01 (v lo hi : Int32) : inRg v lo hi = 0 ∨ inRg v lo hi = 1 := by
  unfold inRg
  split
  · exact Or.inl rfl
  · split
    · exact Or.inl rfl
    · exact Or.inr rfl
def clampI (v lo hi : Int32) : Int32 := if lo ≤ v then (if v ≤ hi then v else hi) else lo
def runsI (z : Nat → Int32) : Int32 := if z 20 = 1 then 1 else if z 20 = 2 then 1 else 0
theorem runsI_01 (z : Nat → Int32) : runsI z = 0 ∨ runsI z = 1 := by
  unfold runsI
  split
  · exact Or.inr rfl
  · split
    · exact Or.inr rfl
    · exact Or.inl rfl
/-- the numbers of phases and of active phases -/
def nOf (z : Nat → Int32) : Nat := (z 15).toNatClampNeg
def mOf (z : Nat → Int32) : Nat := (z 16).toNatClampNeg
/-- what keeps the arithmetic safe: 1 to 4 phases, as many active at most, no divisor 0 -/
def zOK (z : Nat → Int32) : Prop := z 15 = nI (nOf z) ∧ 1 ≤ nOf z ∧ nOf z ≤ 4 ∧ z 16 = nI (mOf z) ∧ 1 ≤ mOf z ∧ mOf z ≤ nOf z ∧ ¬ z 0 = 0 ∧ ¬ z 3 = 0 ∧ ¬ z 4 = 0
theorem zOK_of {z z' : Nat → Int32} (h : zOK z) (e15 : z' 15 = z 15) (e16 : z' 16 = z 16) (e0 : z' 0 = z 0) (e3 : z' 3 = z 3) (e4 : z' 4 = z 4) : zOK z' := by
  unfold zOK nOf mOf at *
  rw [e15, e16, e0, e3, e4]
  exact h
def changePh (m : Int32) (z : Nat → Int32) : Nat → Int32 := upd (upd (upd (upd z 16 m) 29 0) 30 0) 28 (z 28 + 1)
def aim (z : Nat → Int32) : Nat → Int32 :=
  if z 20 = 1 then (if z 18 + z 8 < z 1 then upd z 18 (z 18 + z 8) else upd (upd (upd z 18 (z 18 + z 8)) 18 (z 1)) 20 2) else if z 20 = 2 then upd z 18 (z 1) else z
def regI (z : Nat → Int32) : Int32 := clampI (z 19 + (z 18 - z 17)) (-100000) 100000
def regulate (z : Nat → Int32) : Nat → Int32 :=
  upd (upd z 19 (regI z)) 21 (clampI (1000 * z 18 / z 0 + (z 18 - z 17) * z 6 / 100 + regI z * z 7 / 10000) 0 900)
def stopL : Nat → Nat → (Nat → Int32) → (Nat → Int32)
  | 0, _, z => z
  | n + 1, i, z => stopL n (i + 1) (upd z (35 + 7 * i + 1) 0)
def stopTo (v : Int32) (z : Nat → Int32) : Nat → Int32 := stopL (nOf z) 0 (upd z 20 v)
def sumL (z : Nat → Int32) : Nat → Nat → Int32 → Int32
  | 0, _, x => x
  | n + 1, i, x => sumL z n (i + 1) (x + z (35 + 7 * i + 0))
def sumC (n : Nat) (z : Nat → Int32) : Int32 := sumL z n 0 0
def adI (z : Nat → Int32) : Int32 := if z 22 ≤ z 10 * z 16 then 0 else (if z 15 ≤ z 16 then 0 else z 29 + 1)
def shI (z : Nat → Int32) : Int32 := if z 16 ≤ 1 then 0 else (if z 11 * (z 16 - 1) ≤ z 22 then 0 else z 30 + 1)
def choose (z : Nat → Int32) : Nat → Int32 :=
  if adI z = 3 then changePh (z 16 + 1) (upd z 29 (adI z))
  else if shI z = 5 then upd (changePh (z 16 - 1) (upd (upd z 29 (adI z)) 30 (shI z))) (35 + 7 * (mOf z - 1) + 1) 0
  else upd (upd z 29 (adI z)) 30 (shI z)
def bpSkip (k : Nat) (z : Nat → Int32) : Nat → Int32 := upd (upd (upd z (35 + 7 * k + 1) 0) (35 + 7 * k + 5) (z (35 + 7 * k + 5) + 1)) 26 (z 26 + 1)
def bpFar (k : Nat) (z : Nat → Int32) : Int32 := z (35 + 7 * k + 0) - sumC (mOf z) z / z 16
def bpB (k : Nat) (z : Nat → Int32) : Int32 := clampI (z 21 - bpFar k z * z 14 / 1000) 0 900
def bpRest (k : Nat) (z : Nat → Int32) : Int32 := z (35 + 7 * k + 2) + 20 * bpB k z
def bpGo (k : Nat) (z : Nat → Int32) : Nat → Int32 := upd (upd (upd z (35 + 7 * k + 1) (bpRest k z / 1000)) (35 + 7 * k + 2) (bpRest k z - bpRest k z / 1000 * 1000)) (35 + 7 * k + 6) (z (35 + 7 * k + 6) + 1)
def beginP (k : Nat) (a : Int32) (z : Nat → Int32) : Nat → Int32 :=
  if z 17 < z 18 then bpGo k z else if z 20 = 1 then bpSkip k z else if z 9 ≤ a then bpGo k z else bpSkip k z
def st1 (k : Nat) (z : Nat → Int32) : Nat → Int32 :=
  if z (35 + 7 * k + 1) ≤ 0 then z else (if z (35 + 7 * k + 0) < z 5 then z else upd (upd (upd z (35 + 7 * k + 1) 0) (35 + 7 * k + 4) (z (35 + 7 * k + 4) + 1)) 25 (z 25 + 1))
def st2 (k : Nat) (z : Nat → Int32) : Nat → Int32 :=
  if z (35 + 7 * k + 1) ≤ 0 then upd z (35 + 7 * k + 0) (z (35 + 7 * k + 0) - z 17 / z 3)
  else upd (upd (upd z (35 + 7 * k + 1) (z (35 + 7 * k + 1) - 1)) (35 + 7 * k + 3) (z (35 + 7 * k + 3) + 1)) (35 + 7 * k + 0) (z (35 + 7 * k + 0) + (z 0 - z 17) / z 3)
def st3 (k : Nat) (z : Nat → Int32) : Nat → Int32 := upd z (35 + 7 * k + 0) (if 0 ≤ z (35 + 7 * k + 0) then z (35 + 7 * k + 0) else 0)
def step (k : Nat) (z : Nat → Int32) : Nat → Int32 := st3 k (st2 k (st1 k z))
def layE (G : Nat → Int32) : Nat → Int32 := upd (upd (upd G 5 1000000) 6 (-1)) 7 0
theorem zOK_m1 {z : Nat → Int32} (h : zOK z) : z 16 - 1 = nI (mOf z - 1) := by
  have h1 := h.2.2.2.2.1
  rw [h.2.2.2.1, show (1 : Int32) = nI 1 from rfl, pk_sub h1]
theorem zOK_m0 {z : Nat → Int32} (h : zOK z) : ¬ z 16 = 0 := by
  have h1 := h.2.2.2.2.1
  have h2 := h.2.2.1
  have h3 := h.2.2.2.2.2.1
  rw [h.2.2.2.1]
  exact nI_ne0 (by omega) (by omega)
theorem st1_lt {k j : Nat} {z : Nat → Int32} (h : j < 35) (h2 : j ≠ 25) : st1 k z j = z j := by
  unfold st1
  split
  · rfl
  · split
    · rfl
    · rw [pk_un h2, pk_un (by omega), pk_un (by omega)]
theorem st2_lt {k j : Nat} {z : Nat → Int32} (h : j < 35) : st2 k z j = z j := by
  unfold st2
  split
  · rw [pk_un (by omega)]
  · rw [pk_un (by omega), pk_un (by omega), pk_un (by omega)]
theorem st3_lt {k j : Nat} {z : Nat → Int32} (h : j < 35) : st3 k z j = z j := by
  unfold st3
  rw [pk_un (by omega)]
theorem step_lt {k j : Nat} {z : Nat → Int32} (h : j < 35) (h2 : j ≠ 25) : step k z j = z j := by
  unfold step
  rw [st3_lt h, st2_lt h, st1_lt h h2]
theorem bpSkip_lt {k j : Nat} {z : Nat → Int32} (h : j < 35) (h2 : j ≠ 26) : bpSkip k z j = z j := by
  unfold bpSkip
  rw [pk_un h2, pk_un (by omega), pk_un (by omega)]
theorem bpGo_lt {k j : Nat} {z : Nat → Int32} (h : j < 35) : bpGo k z j = z j := by
  unfold bpGo
  rw [pk_un (by omega), pk_un (by omega), pk_un (by omega)]
theorem beginP_lt {k j : Nat} {v : Int32} {z : Nat → Int32} (h : j < 35) (h2 : j ≠ 26) : beginP k v z j = z j := by
  unfold beginP
  split
  · exact bpGo_lt h
  · split
    · exact bpSkip_lt h h2
    · split
      · exact bpGo_lt h
      · exact bpSkip_lt h h2
def firstT (k : Nat) : Int32 := [12000, 3300, 1000, 20, 50, 8000, 50, 20, 100, 300, 3000, 1000, 5000, 4000, 100].getD k 0
def lowT (k : Nat) : Int32 := [1000, 500, 0, 1, 1, 100, 0, 0, 1, 0, 1, 0, 500, 0, 0].getD k 0
def highT (k : Nat) : Int32 := [24000, 12000, 60000, 100, 500, 30000, 500, 500, 2000, 10000, 30000, 30000, 30000, 24000, 1000].getD k 0
def placeT (k : Nat) : Nat := [20, 17, 18, 16, 24, 22, 19, 21, 23, 25, 26, 27, 28, 15, 31].getD k 0
/-- one phase's chance to begin its pulse in the slot v, the mean current being a -/
def sbp (v a : Int32) (i : Nat) (z : Nat → Int32) : Nat → Int32 := if runsI z = 0 then z else (if v = 20 * nI i / z 16 then beginP i a z else z)
def slotA (v a : Int32) : Nat → Nat → (Nat → Int32) → (Nat → Int32)
  | 0, _, z => z
  | n + 1, i, z => slotA v a n (i + 1) (sbp v a i z)
def sgI (i : Nat) (z G : Nat → Int32) : Int32 := if step i z (35 + 7 * i + 0) ≤ G 7 then G 7 else step i z (35 + 7 * i + 0)
def slotB : Nat → Nat → (Nat → Int32) → (Nat → Int32) → (Nat → Int32) × (Nat → Int32)
  | 0, _, z, G => (z, G)
  | n + 1, i, z, G => slotB n (i + 1) (step i z) (upd G 7 (sgI i z G))
def slotC (z : Nat → Int32) : Nat → Int32 := upd z 17 (clampI (z 17 + (sumC (nOf z) z - z 2) / z 4) 0 40000)
def slotD (z : Nat → Int32) : Nat → Int32 := if runsI z = 0 then z else (if z 17 ≤ z 12 then z else stopTo 3 z)
def slotG (z G : Nat → Int32) : Nat → Int32 := upd (upd G 5 (if G 5 ≤ z 17 then G 5 else z 17)) 6 (if z 17 ≤ G 6 then G 6 else z 17)
def slotE (z G : Nat → Int32) : (Nat → Int32) × (Nat → Int32) := (slotD (slotC z), slotG (slotD (slotC z)) G)
def slotT (z G : Nat → Int32) : (Nat → Int32) × (Nat → Int32) := slotE (slotB (nOf z) 0 z G).1 (slotB (nOf z) 0 z G).2
/-- a slot -/
def slot (v a : Int32) (z G : Nat → Int32) : (Nat → Int32) × (Nat → Int32) := slotT (slotA v a (mOf z) 0 z) G
theorem slot_eq {v a : Int32} {z G z1 z2 G2 : Nat → Int32} (h1 : z1 = slotA v a (mOf z) 0 z) (h2 : (z2, G2) = slotB (nOf z1) 0 z1 G) : slot v a z G = slotE z2 G2 := by
  unfold slot slotT
  rw [← h1, ← h2]
theorem aim_lt {j : Nat} {z : Nat → Int32} (h : j ≠ 18) (h2 : j ≠ 20) : aim z j = z j := by
  unfold aim
  split
  · split
    · rw [pk_un h]
    · rw [pk_un h2, pk_un h, pk_un h]
  · split
    · rw [pk_un h]
    · rfl
theorem aim_OK {z : Nat → Int32} (h : zOK z) : zOK (aim z) := zOK_of h (aim_lt (by omega) (by omega)) (aim_lt (by omega) (by omega)) (aim_lt (by omega) (by omega)) (aim_lt (by omega) (by omega)) (aim_lt (by omega) (by omega))
theorem regulate_lt {j : Nat} {z : Nat → Int32} (h : j ≠ 19) (h2 : j ≠ 21) : regulate z j = z j := by
  unfold regulate
  rw [pk_un h2, pk_un h]
theorem regulate_OK {z : Nat → Int32} (h : zOK z) : zOK (regulate z) := zOK_of h (regulate_lt (by omega) (by omega)) (regulate_lt (by omega) (by omega)) (regulate_lt (by omega) (by omega)) (regulate_lt (by omega) (by omega)) (regulate_lt (by omega) (by omega))
theorem stopL_lt {j : Nat} (h : j < 35) : ∀ (n i : Nat) (z : Nat → Int32), stopL n i z j = z j := by
  intro n
  induction n with
  | zero => intro i z; rfl
  | succ n ih =>
    intro i z
    show stopL n (i + 1) _ j = z j
    rw [ih, pk_un (by omega)]
theorem stopTo_lt {v : Int32} {j : Nat} {z : Nat → Int32} (h : j < 35) (h2 : j ≠ 20) : stopTo v z j = z j := by
  unfold stopTo
  rw [stopL_lt h, pk_un h2]
theorem stopTo_OK {v : Int32} {z : Nat → Int32} (h : zOK z) : zOK (stopTo v z) := zOK_of h (stopTo_lt (by omega) (by omega)) (stopTo_lt (by omega) (by omega)) (stopTo_lt (by omega) (by omega)) (stopTo_lt (by omega) (by omega)) (stopTo_lt (by omega) (by omega))
theorem step_OK {k : Nat} {z : Nat → Int32} (h : zOK z) : zOK (step k z) := zOK_of h (step_lt (by omega) (by omega)) (step_lt (by omega) (by omega)) (step_lt (by omega) (by omega)) (step_lt (by omega) (by omega)) (step_lt (by omega) (by omega))
theorem sbp_lt {v a : Int32} {i j : Nat} {z : Nat → Int32} (h : j < 35) (h2 : j ≠ 26) : sbp v a i z j = z j := by
  unfold sbp
  split
  · rfl
  · split
    · exact beginP_lt h h2
    · rfl
theorem sbp_OK {v a : Int32} {i : Nat} {z : Nat → Int32} (h : zOK z) : zOK (sbp v a i z) := zOK_of h (sbp_lt (by omega) (by omega)) (sbp_lt (by omega) (by omega)) (sbp_lt (by omega) (by omega)) (sbp_lt (by omega) (by omega)) (sbp_lt (by omega) (by omega))
theorem slotA_lt {v a : Int32} {j : Nat} (h : j < 35) (h2 : j ≠ 26) : ∀ (n i : Nat) (z : Nat → Int32), slotA v a n i z j = z j := by
  intro n
  induction n with
  | zero => intro i z; rfl
  | succ n ih =>
    intro i z
    show slotA v a n (i + 1) _ j = z j
    rw [ih, sbp_lt h h2]
theorem slotA_OK {v a : Int32} {n i : Nat} {z : Nat → Int32} (h : zOK z) : zOK (slotA v a n i z) := zOK_of h (slotA_lt (by omega) (by omega) _ _ _) (slotA_lt (by omega) (by omega) _ _ _) (slotA_lt (by omega) (by omega) _ _ _) (slotA_lt (by omega) (by omega) _ _ _) (slotA_lt (by omega) (by omega) _ _ _)
theorem slotB_lt {j : Nat} (h : j < 35) (h2 : j ≠ 25) : ∀ (n i : Nat) (z G : Nat → Int32), (slotB n i z G).1 j = z j := by
  intro n
  induction n with
  | zero => intro i z G; rfl
  | succ n ih =>
    intro i z G
    show (slotB n (i + 1) _ _).1 j = z j
    rw [ih, step_lt h h2]
theorem slotB_OK {n i : Nat} {z G : Nat → Int32} (h : zOK z) : zOK (slotB n i z G).1 := zOK_of h (slotB_lt (by omega) (by omega) _ _ _ _) (slotB_lt (by omega) (by omega) _ _ _ _) (slotB_lt (by omega) (by omega) _ _ _ _) (slotB_lt (by omega) (by omega) _ _ _ _) (slotB_lt (by omega) (by omega) _ _ _ _)
theorem slotC_lt {j : Nat} {z : Nat → Int32} (h : j ≠ 17) : slotC z j = z j := pk_un h
theorem slotC_OK {z : Nat → Int32} (h : zOK z) : zOK (slotC z) := zOK_of h (slotC_lt (by omega)) (slotC_lt (by omega)) (slotC_lt (by omega)) (slotC_lt (by omega)) (slotC_lt (by omega))
theorem slotD_lt {j : Nat} {z : Nat → Int32} (h : j < 35) (h2 : j ≠ 20) : slotD z j = z j := by
  unfold slotD
  split
  · rfl
  · split
    · rfl
    · exact stopTo_lt h h2
theorem slotD_OK {z : Nat → Int32} (h : zOK z) : zOK (slotD z) := zOK_of h (slotD_lt (by omega) (by omega)) (slotD_lt (by omega) (by omega)) (slotD_lt (by omega) (by omega)) (slotD_lt (by omega) (by omega)) (slotD_lt (by omega) (by omega))
theorem slot_OK {v a : Int32} {z G : Nat → Int32} (h : zOK z) : zOK (slot v a z G).1 := slotD_OK (slotC_OK (slotB_OK (slotA_OK h)))
theorem slot_lt {v a : Int32} {z G : Nat → Int32} {j : Nat} (h : j < 35) (h2 : j ≠ 17) (h3 : j ≠ 20) (h4 : j ≠ 25) (h5 : j ≠ 26) : (slot v a z G).1 j = z j := by
  show slotD (slotC _) j = z j
  rw [slotD_lt h h3, slotC_lt h2, slotB_lt h h4, slotA_lt h h5]
/-- the records move by one -/
def recL : Nat → (Nat → Int32) → (Nat → Int32)
  | 0, z => z
  | n + 1, z => recL n (upd z (68 + n + 1) (z (62 + n + 1)))
theorem rec_ix (n : Nat) : nI (68 + n + 1) - 6 = nI (62 + n + 1) := by
  rw [show (6 : Int32) = nI 6 from rfl, pk_sub (by omega), show 68 + n + 1 - 6 = 62 + n + 1 by omega]
def recordZ (v : Int32) (z : Nat → Int32) : Nat → Int32 :=
  upd (upd (upd (upd (upd (upd (upd (recL 90 z) 63 (recL 90 z 17)) 64 (recL 90 z 22)) 65 (recL 90 z 23)) 66 (recL 90 z 16)) 67 (recL 90 z 20)) 68 v) 31 (recL 90 z 31 + (if (16 : Int32) ≤ recL 90 z 31 then 0 else 1))
def cy1 (z : Nat → Int32) : Nat → Int32 := if runsI z = 0 then z else (if z 13 ≤ z 0 then z else stopTo 4 z)
def cy3 (z : Nat → Int32) : Nat → Int32 := if runsI z = 0 then z else choose (regulate z)
def loI (i : Nat) (z G : Nat → Int32) (y a : Int32) : Int32 := if y ≤ (slot (nI i) a z G).1 17 then y else (slot (nI i) a z G).1 17
def hiI (i : Nat) (z G : Nat → Int32) (y a : Int32) : Int32 := if (slot (nI i) a z G).1 17 ≤ y then y else (slot (nI i) a z G).1 17
def cycL (a : Int32) : Nat → Nat → (Nat → Int32) → (Nat → Int32) → Int32 → Int32 → Int32 → (Nat → Int32) × (Nat → Int32) × Int32 × Int32 × Int32
  | 0, _, z, G, x, lo, hi => (z, G, x, lo, hi)
  | n + 1, i, z, G, x, lo, hi => cycL a n (i + 1) (slot (nI i) a z G).1 (slot (nI i) a z G).2 (x + sumC (nOf (slot (nI i) a z G).1) (slot (nI i) a z G).1) (loI i z G lo a) (hiI i z G hi a)
/-- a cycle's end: z behind the slots, l the limit events before them -/
def cyE (l : Int32) (u : (Nat → Int32) × (Nat → Int32) × Int32 × Int32 × Int32) : (Nat → Int32) × (Nat → Int32) :=
  (recordZ (u.1 25 - l) (upd (upd (upd (upd u.1 22 (u.2.2.1 / 20)) 23 (u.2.2.2.2 - u.2.2.2.1)) 27 (if u.2.1 7 ≤ u.1 27 then u.1 27 else u.2.1 7)) 24 (u.1 24 + 1)), u.2.1)
/-- a cycle -/
def cycle (z G : Nat → Int32) : (Nat → Int32) × (Nat → Int32) :=
  cyE (cy3 (aim (cy1 z)) 25) (cycL (aim (cy1 z) 22) 20 0 (cy3 (aim (cy1 z))) G 0 1000000 (-1))
theorem cycle_eq {z G z1 z2 : Nat → Int32} {u : (Nat → Int32) × (Nat → Int32) × Int32 × Int32 × Int32} (h1 : z1 = cy1 z) (h2 : z2 = cy3 (aim (cy1 z))) (h3 : u = cycL (aim z1 22) 20 0 z2 G 0 1000000 (-1)) : cycle z G = cyE (z2 25) u := by
  unfold cycle
  rw [h3, h1, h2]
theorem cy1_OK {z : Nat → Int32} (h : zOK z) : zOK (cy1 z) := by
  unfold cy1
  split
  · exact h
  · split
    · exact h
    · exact stopTo_OK h
theorem changePh_OK {v : Int32} {j : Nat} {z : Nat → Int32} (h : zOK z) (hv : v = nI j) (h1 : 1 ≤ j) (h2 : j ≤ nOf z) : zOK (changePh v z) := by
  have e15 : changePh v z 15 = z 15 := by unfold changePh; rw [pk_un (by omega), pk_un (by omega), pk_un (by omega), pk_un (by omega)]
  have e16 : changePh v z 16 = v := by unfold changePh; rw [pk_un (by omega), pk_un (by omega), pk_un (by omega), pk_us]
  have e0 : changePh v z 0 = z 0 := by unfold changePh; rw [pk_un (by omega), pk_un (by omega), pk_un (by omega), pk_un (by omega)]
  have e3 : changePh v z 3 = z 3 := by unfold changePh; rw [pk_un (by omega), pk_un (by omega), pk_un (by omega), pk_un (by omega)]
  have e4 : changePh v z 4 = z 4 := by unfold changePh; rw [pk_un (by omega), pk_un (by omega), pk_un (by omega), pk_un (by omega)]
  have hn := h.2.2.1
  have en : nOf (changePh v z) = nOf z := by unfold nOf; rw [e15]
  have em : mOf (changePh v z) = j := by unfold mOf; rw [e16, hv]; exact nI_clamp (by omega)
  refine ⟨by rw [en, e15]; exact h.1, by rw [en]; exact h.2.1, by rw [en]; exact hn, by rw [em, e16]; exact hv, by rw [em]; exact h1, by rw [em, en]; exact h2, by rw [e0]; exact h.2.2.2.2.2.2.1, by rw [e3]; exact h.2.2.2.2.2.2.2.1, by rw [e4]; exact h.2.2.2.2.2.2.2.2⟩
theorem upd_OK {k : Nat} {v : Int32} {z : Nat → Int32} (h : zOK z) (h15 : k ≠ 15) (h16 : k ≠ 16) (h0 : k ≠ 0) (h3 : k ≠ 3) (h4 : k ≠ 4) : zOK (upd z k v) := zOK_of h (pk_un (Ne.symm h15)) (pk_un (Ne.symm h16)) (pk_un (Ne.symm h0)) (pk_un (Ne.symm h3)) (pk_un (Ne.symm h4))
theorem choose_OK {z : Nat → Int32} (h : zOK z) : zOK (choose z) := by
  have hn := h.2.2.1
  have hm := h.2.2.2.2.1
  have hmn := h.2.2.2.2.2.1
  unfold choose
  split
  · rename_i h1
    refine changePh_OK (j := mOf z + 1) (upd_OK h (by omega) (by omega) (by omega) (by omega) (by omega)) ?_ (by omega) ?_
    · rw [h.2.2.2.1]; exact nI_1 _
    · have e : nOf (upd z 29 (adI z)) = nOf z := by unfold nOf; rw [pk_un (by omega)]
      rw [e]
      unfold adI at h1
      split at h1
      · exact absurd h1 (by decide)
      · split at h1
        · exact absurd h1 (by decide)
        · rename_i h2
          rw [h.1, h.2.2.2.1] at h2
          rcases Nat.lt_or_ge (mOf z) (nOf z) with q | q
          · exact q
          · exact absurd (nI_le q (by omega)) h2
  · split
    · rename_i h1 h5
      refine upd_OK (changePh_OK (j := mOf z - 1) (upd_OK (upd_OK h (by omega) (by omega) (by omega) (by omega) (by omega)) (by omega) (by omega) (by omega) (by omega) (by omega)) ?_ ?_ ?_) (by omega) (by omega) (by omega) (by omega) (by omega)
      · exact zOK_m1 h
      · unfold shI at h5
        split at h5
        · exact absurd h5 (by decide)
        · rename_i h2
          rw [h.2.2.2.1] at h2
          rcases Nat.lt_or_ge 1 (mOf z) with q | q
          · omega
          · exact absurd (nI_le (b := 1) q (by omega)) h2
      · have e : nOf (upd (upd z 29 (adI z)) 30 (shI z)) = nOf z := by unfold nOf; rw [pk_un (by omega), pk_un (by omega)]
        rw [e]
        omega
    · exact upd_OK (upd_OK h (by omega) (by omega) (by omega) (by omega) (by omega)) (by omega) (by omega) (by omega) (by omega) (by omega)
theorem cy3_OK {z : Nat → Int32} (h : zOK z) : zOK (cy3 z) := by
  unfold cy3
  split
  · exact h
  · exact choose_OK (regulate_OK h)
