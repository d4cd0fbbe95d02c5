/-! The class's cells: a phase, the plant; what its methods do, in the reference's words. -/
/-- a phase by its seven numbers -/
abbrev c1 (f : Nat → Int32) : va_E := .inr (1, [.int (f 0), .int (f 1), .int (f 2), .int (f 3), .int (f 4), .int (f 5), .int (f 6)])
abbrev wF (b : Nat) (f : Nat → Int32) : va_W := [(b, c1 f)]
abbrev wF2 (b d : Nat) (f y : Nat → Int32) : va_W := [(b, c1 f), (d, c1 y)]
abbrev phC (z : Nat → Int32) (k : Nat) : va_E := c1 (fun j => z (35 + 7 * k + j))
abbrev plC (B : Nat → Nat) (z : Nat → Int32) (l u q : Int32) : va_E := .inr (2, [.ref (B 1), .ref (B 2), .int (z 15), .int (z 16), .int (z 20), .int (z 17), .int (z 18), .int (z 19), .int (z 21), .int (z 29), .int (z 30), .int (z 24), .int (z 22), .int l, .int u, .int q, .int (z 28)])
/-- a plant: B 0 itself, B 1 its settings g, B 2 its row of phases, B 3 to B 6 the phases; its numbers by the reference's places z; l, u the voltage's bounds, q the greatest current -/
abbrev wP (E : EE) (B : Nat → Nat) (g z : Nat → Int32) (l u q : Int32) : va_W :=
  [(B 0, plC B z l u q), (B 1, .inl (E.2.1, 15, .inl g)), (B 2, .inl (E.2.2, 4, .inr (.inr (.inr (.inr (fun i => some (B (3 + i)))))))), (B (3 + 0), phC z 0), (B (3 + 1), phC z 1), (B (3 + 2), phC z 2), (B (3 + 3), phC z 3)]
theorem c1_congr {f y : Nat → Int32} (h : ∀ j, j < 7 → f j = y j) : c1 f = c1 y := by
  show (Sum.inr (1, [Value.int (f 0), .int (f 1), .int (f 2), .int (f 3), .int (f 4), .int (f 5), .int (f 6)]) : va_E) = _
  rw [h 0 (by omega), h 1 (by omega), h 2 (by omega), h 3 (by omega), h 4 (by omega), h 5 (by omega), h 6 (by omega)]
/-- the plant's own places -/
def plI : List Nat := [15, 16, 20, 17, 18, 19, 21, 29, 30, 24, 22, 28]
theorem plC_congr {B : Nat → Nat} {z y : Nat → Int32} {l u q : Int32} (h : ∀ i, i ∈ plI → z i = y i) : plC B z l u q = plC B y l u q := by
  have e := fun i hi => h i hi
  show (Sum.inr (2, [Value.ref (B 1), .ref (B 2), .int (z 15), .int (z 16), .int (z 20), .int (z 17), .int (z 18), .int (z 19), .int (z 21), .int (z 29), .int (z 30), .int (z 24), .int (z 22), .int l, .int u, .int q, .int (z 28)]) : va_E) = _
  rw [h 15 (by decide), h 16 (by decide), h 20 (by decide), h 17 (by decide), h 18 (by decide), h 19 (by decide), h 21 (by decide), h 29 (by decide), h 30 (by decide), h 24 (by decide), h 22 (by decide), h 28 (by decide)]
theorem wP_at {E : EE} {B : Nat → Nat} {g z : Nat → Int32} {l u q : Int32} {k : Nat} (hk : k < 4) : (wP E B g z l u q)[3 + k]? = some (B (3 + k), phC z k) := by
  obtain rfl | rfl | rfl | rfl : k = 0 ∨ k = 1 ∨ k = 2 ∨ k = 3 := by omega
  all_goals rfl
theorem wP_ins {E : EE} {B : Nat → Nat} {g z y : Nat → Int32} {l u q : Int32} {k : Nat} {f : Nat → Int32} (hk : k < 4) (hs : ∀ i, i ∈ plI → y i = z i) (ho : ∀ p j, p < 4 → j < 7 → p ≠ k → y (35 + 7 * p + j) = z (35 + 7 * p + j)) (hf : ∀ j, j < 7 → y (35 + 7 * k + j) = f j) :
    (wP E B g z l u q).set (3 + k) (B (3 + k), c1 f) = wP E B g y l u q := by
  have e0 : plC B z l u q = plC B y l u q := plC_congr (fun i hi => (hs i hi).symm)
  have ep : ∀ p, p < 4 → p ≠ k → phC z p = phC y p := fun p hp hne => c1_congr (fun j hj => (ho p j hp hj hne).symm)
  have ek : c1 f = phC y k := c1_congr (fun j hj => (hf j hj).symm)
  obtain rfl | rfl | rfl | rfl : k = 0 ∨ k = 1 ∨ k = 2 ∨ k = 3 := by omega
  · show ([(B 0, plC B z l u q), _, _, (B (3 + 0), c1 f), (B (3 + 1), phC z 1), (B (3 + 2), phC z 2), (B (3 + 3), phC z 3)] : va_W) = _
    rw [e0, ek, ep 1 (by omega) (by omega), ep 2 (by omega) (by omega), ep 3 (by omega) (by omega)]
  · show ([(B 0, plC B z l u q), _, _, (B (3 + 0), phC z 0), (B (3 + 1), c1 f), (B (3 + 2), phC z 2), (B (3 + 3), phC z 3)] : va_W) = _
    rw [e0, ek, ep 0 (by omega) (by omega), ep 2 (by omega) (by omega), ep 3 (by omega) (by omega)]
  · show ([(B 0, plC B z l u q), _, _, (B (3 + 0), phC z 0), (B (3 + 1), phC z 1), (B (3 + 2), c1 f), (B (3 + 3), phC z 3)] : va_W) = _
    rw [e0, ek, ep 0 (by omega) (by omega), ep 1 (by omega) (by omega), ep 3 (by omega) (by omega)]
  · show ([(B 0, plC B z l u q), _, _, (B (3 + 0), phC z 0), (B (3 + 1), phC z 1), (B (3 + 2), phC z 2), (B (3 + 3), c1 f)] : va_W) = _
    rw [e0, ek, ep 0 (by omega) (by omega), ep 1 (by omega) (by omega), ep 2 (by omega) (by omega)]
theorem wP_congr {E : EE} {B : Nat → Nat} {g z y : Nat → Int32} {l u q : Int32} (hs : ∀ i, i ∈ plI → y i = z i) (ho : ∀ i, 35 ≤ i → i < 63 → y i = z i) : wP E B g z l u q = wP E B g y l u q := by
  have e0 : plC B z l u q = plC B y l u q := plC_congr (fun i hi => (hs i hi).symm)
  have ep : ∀ p, p < 4 → phC z p = phC y p := fun p hp => c1_congr (fun j hj => (ho _ (by omega) (by omega)).symm)
  show ([(B 0, plC B z l u q), _, _, (B (3 + 0), phC z 0), (B (3 + 1), phC z 1), (B (3 + 2), phC z 2), (B (3 + 3), phC z 3)] : va_W) = _
  rw [e0, ep 0 (by omega), ep 1 (by omega), ep 2 (by omega), ep 3 (by omega)]
theorem plI_lt {i : Nat} (h : i ∈ plI) : 15 ≤ i ∧ i < 31 ∧ i ≠ 23 ∧ i ≠ 25 ∧ i ≠ 26 ∧ i ≠ 27 := by
  simp only [plI, List.mem_cons, List.not_mem_nil, or_false] at h
  omega
/-- one number of a phase is put -/
theorem wP_put {E : EE} {B : Nat → Nat} {g z : Nat → Int32} {l u q : Int32} {k : Nat} {v : Int32} (i : Nat) (hi : i < 7) {f : Nat → Int32} (hk : k < 4) (hf : ∀ j, j < 7 → f j = upd (fun j => z (35 + 7 * k + j)) i v j) :
    (wP E B g z l u q).set (3 + k) (B (3 + k), c1 f) = wP E B g (upd z (35 + 7 * k + i) v) l u q := by
  refine wP_ins hk (fun j hj => ?_) (fun p j hp hj hne => ?_) (fun j hj => ?_)
  · have := plI_lt hj
    rw [pk_un (by omega)]
  · rw [pk_un (by omega)]
  · rw [hf j hj]
    by_cases h : j = i
    · subst h; rw [pk_us, pk_us]
    · rw [pk_un (by omega), pk_un h]
def bgF (v : Int32) (f : Nat → Int32) : Nat → Int32 := upd (upd (upd (upd f 2 (f 2 + 20 * v)) 1 ((f 2 + 20 * v) / 1000)) 2 (f 2 + 20 * v - (f 2 + 20 * v) / 1000 * 1000)) 6 (f 6 + 1)
def ps1 (v : Int32) (f : Nat → Int32) : Nat → Int32 := if f 1 ≤ 0 then f else (if f 0 < v then f else upd (upd f 1 0) 4 (f 4 + 1))
def ps2 (v w : Int32) (f : Nat → Int32) : Nat → Int32 := if f 1 ≤ 0 then upd f 0 (f 0 - w) else upd (upd (upd f 1 (f 1 - 1)) 3 (f 3 + 1)) 0 (f 0 + v)
def ps3 (f : Nat → Int32) : Nat → Int32 := if 0 ≤ f 0 then f else upd f 0 0
def psF (x v w : Int32) (f : Nat → Int32) : Nat → Int32 := ps3 (ps2 v w (ps1 x f))
