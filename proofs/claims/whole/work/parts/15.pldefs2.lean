/-! The plant's slots and cycle. -/
theorem runsI_of {z y : Nat → Int32} (h : y 20 = z 20) : runsI y = runsI z := by unfold runsI; rw [h]
theorem mvL_lt {j : Nat} (h : j < 35) (h2 : j ≠ 25) : ∀ (n i : Nat) (z : Nat → Int32) (q x : Int32), (mvL n i z q x).1 j = z j := by
  intro n
  induction n with
  | zero => intro i z q x; rfl
  | succ n ih =>
    intro i z q x
    show (mvL n (i + 1) _ _ _).1 j = z j
    rw [ih, step_lt h h2]
theorem mvL_ge {j N : Nat} (h : 35 + 7 * N ≤ j) : ∀ (n i : Nat) (z : Nat → Int32) (q x : Int32), i + n ≤ N → (mvL n i z q x).1 j = z j := by
  intro n
  induction n with
  | zero => intro i z q x _; rfl
  | succ n ih =>
    intro i z q x hb
    show (mvL n (i + 1) _ _ _).1 j = z j
    rw [ih _ _ _ _ (by omega), step_ge (by omega)]
theorem mvF_lt {j : Nat} {z : Nat → Int32} {q : Int32} (h : j < 35) (h2 : j ≠ 25) : (mvF z q).1 j = z j := mvL_lt h h2 _ _ _ _ _
theorem mvF_OK {z : Nat → Int32} {q : Int32} (h : zOK z) : zOK (mvF z q).1 := zOK_of h (mvF_lt (by omega) (by omega)) (mvF_lt (by omega) (by omega)) (mvF_lt (by omega) (by omega)) (mvF_lt (by omega) (by omega)) (mvF_lt (by omega) (by omega))
theorem mvF_n {z : Nat → Int32} {q : Int32} : nOf (mvF z q).1 = nOf z := nOf_of (mvF_lt (by omega) (by omega))
theorem mvF_Z {z : Nat → Int32} {q : Int32} (h : zZ z) : zZ (mvF z q).1 := zZ_of h mvF_n (fun i h1 _ => mvL_ge h1 _ _ _ _ _ (by omega))
theorem stopTo_Z {v : Int32} {z : Nat → Int32} (h : zZ z) : zZ (stopTo v z) := zZ_of h stopTo_n (fun i h1 _ => stopTo_ge h1)
theorem slotD_Z {z : Nat → Int32} (h : zZ z) : zZ (slotD z) := zZ_of h slotD_n (fun i h1 _ => slotD_ge h1)
theorem slotA_Z {v a : Int32} {z : Nat → Int32} (hz : zOK z) (h : zZ z) : zZ (slotA v a (mOf z) 0 z) := zZ_of h slotA_n (fun i h1 _ => slotA_ge h1 _ _ _ (by have := hz.2.2.2.2.2.1; omega))
theorem cy1_Z {z : Nat → Int32} (h : zZ z) : zZ (cy1 z) := zZ_of h cy1_n (fun i h1 _ => cy1_ge h1)
theorem aim_Z {z : Nat → Int32} (h : zZ z) : zZ (aim z) := zZ_of h aim_n (fun i h1 _ => aim_lt (by omega) (by omega))
theorem cy3_Z {z : Nat → Int32} (hz : zOK z) (h : zZ z) : zZ (cy3 z) := zZ_of h cy3_n (fun i h1 _ => cy3_ge hz h1)
theorem stopTo_g {v : Int32} {z : Nat → Int32} {k : Nat} (hk : k < 15) : stopTo v z k = z k := stopTo_lt (by omega) (by omega)
theorem cy1_g {z : Nat → Int32} {k : Nat} (hk : k < 15) : cy1 z k = z k := by
  unfold cy1
  repeat' split
  · rfl
  · rfl
  · exact stopTo_g hk
theorem choose_g {z : Nat → Int32} {k : Nat} (hk : k < 15) : choose z k = z k := by
  have c : ∀ (v : Int32) (y : Nat → Int32), changePh v y k = y k := fun v y => by unfold changePh; rw [pk_un (by omega), pk_un (by omega), pk_un (by omega), pk_un (by omega)]
  unfold choose
  split
  · rw [c, pk_un (by omega)]
  · split
    · rw [pk_un (by omega), c, pk_un (by omega), pk_un (by omega)]
    · rw [pk_un (by omega), pk_un (by omega)]
theorem cy3_g {z : Nat → Int32} {k : Nat} (hk : k < 15) : cy3 z k = z k := by
  unfold cy3
  split
  · rfl
  · rw [choose_g hk, regulate_lt (by omega) (by omega)]
theorem aim_r {z : Nat → Int32} : runsI (aim z) = 0 ↔ runsI z = 0 := by
  by_cases h : runsI z = 0
  · have h1 : ¬ z 20 = 1 := fun e => by unfold runsI at h; rw [if_pos e] at h; exact absurd h (by decide)
    have h2 : ¬ z 20 = 2 := fun e => by unfold runsI at h; rw [if_neg h1, if_pos e] at h; exact absurd h (by decide)
    have e : aim z = z := by unfold aim; rw [if_neg h1, if_neg h2]
    rw [e]
  · refine ⟨fun e => absurd e ?_, fun e => absurd e h⟩
    by_cases h1 : z 20 = 1
    · unfold aim
      rw [if_pos h1]
      split
      · rw [runsI_of (z := z) (pk_un (by omega))]; exact h
      · unfold runsI; rw [pk_us]; decide
    · unfold aim
      rw [if_neg h1, if_pos (runs_2 h h1), runsI_of (z := z) (pk_un (by omega))]; exact h
theorem cy_eq {z : Nat → Int32} : (if runsI z = 0 then z else choose (regulate (aim z))) = cy3 (aim z) := by
  by_cases h : runsI z = 0
  · have h1 : ¬ z 20 = 1 := fun e => by unfold runsI at h; rw [if_pos e] at h; exact absurd h (by decide)
    have h2 : ¬ z 20 = 2 := fun e => by unfold runsI at h; rw [if_neg h1, if_pos e] at h; exact absurd h (by decide)
    have e : aim z = z := by unfold aim; rw [if_neg h1, if_neg h2]
    unfold cy3
    rw [e, if_pos h]
  · unfold cy3
    rw [if_neg h, if_neg (fun e => h (aim_r.mp e))]
def pcA (i : Nat) (z : Nat → Int32) : Nat → Int32 := if runsI z = 0 then z else slotA (nI i) (z 22) (mOf z) 0 z
def pcD (i : Nat) (z : Nat → Int32) (q : Int32) : Nat → Int32 := slotD (mvV (mvF (pcA i z) q).2.2 (mvF (pcA i z) q).1)
def pcLo (i : Nat) (v y : Int32) : Int32 := if nI i = 0 then v else (if v < y then v else y)
def pcHi (i : Nat) (v y : Int32) : Int32 := if nI i = 0 then v else (if y < v then v else y)
def pcL : Nat → Nat → (Nat → Int32) → Int32 → Int32 → Int32 → Int32 → (Nat → Int32) × Int32 × Int32 × Int32 × Int32
  | 0, _, z, l, u, q, x => (z, l, u, q, x)
  | n + 1, i, z, l, u, q, x => pcL n (i + 1) (pcD i z q) (pcLo i (pcD i z q 17) l) (pcHi i (pcD i z q 17) u) (mvF (pcA i z) q).2.1 (x + (mvF (pcA i z) q).2.2)
def pcU (z : Nat → Int32) (l u q : Int32) : (Nat → Int32) × Int32 × Int32 × Int32 × Int32 := pcL 20 0 (cy3 (aim (cy1 z))) l u q 0
/-- the plant's cycle -/
def pcF (z : Nat → Int32) (l u q : Int32) : Nat → Int32 := upd (upd (pcU z l u q).1 22 ((pcU z l u q).2.2.2.2 / 20)) 24 ((pcU z l u q).1 24 + 1)
theorem pcA_OK {i : Nat} {z : Nat → Int32} (h : zOK z) : zOK (pcA i z) := by
  unfold pcA
  split
  · exact h
  · exact slotA_OK h
theorem pcA_Z {i : Nat} {z : Nat → Int32} (hz : zOK z) (h : zZ z) : zZ (pcA i z) := by
  unfold pcA
  split
  · exact h
  · exact slotA_Z hz h
theorem pcA_lt {i j : Nat} {z : Nat → Int32} (h : j < 35) (h2 : j ≠ 26) : pcA i z j = z j := by
  unfold pcA
  split
  · rfl
  · exact slotA_lt h h2 _ _ _
theorem pcD_OK {i : Nat} {z : Nat → Int32} {q : Int32} (h : zOK z) : zOK (pcD i z q) := slotD_OK (mvV_OK (mvF_OK (pcA_OK h)))
theorem pcD_Z {i : Nat} {z : Nat → Int32} {q : Int32} (hz : zOK z) (h : zZ z) : zZ (pcD i z q) := slotD_Z (mvV_Z (mvF_Z (pcA_Z hz h)))
theorem pcD_g {i k : Nat} {z : Nat → Int32} {q : Int32} (hk : k < 15) : pcD i z q k = z k := by
  unfold pcD
  rw [slotD_lt (by omega) (by omega)]
  unfold mvV
  rw [pk_un (by omega), mvF_lt (by omega) (by omega), pcA_lt (by omega) (by omega)]
