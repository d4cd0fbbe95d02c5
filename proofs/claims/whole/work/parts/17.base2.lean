/-! The class's other cells: the records, the buffer, the object; rows on worlds side by side. -/
theorem gat3 {X wc Y : va_W} {k : Nat} {q : Nat × va_E} (h : wc[k]? = some q) : (X ++ (wc ++ Y))[X.length + k]? = some q := by
  rw [List.getElem?_append_right (by omega), Nat.add_sub_cancel_left, List.getElem?_append_left (List.getElem?_eq_some_iff.mp h).1]
  exact h
theorem gset_same {ws : va_W} {k : Nat} {q : Nat × va_E} (h : ws[k]? = some q) : ws.set k q = ws := by
  refine List.ext_getElem? (fun j => ?_)
  by_cases hj : k = j
  · subst hj
    rw [List.getElem?_set_self (List.getElem?_eq_some_iff.mp h).1, h]
  · rw [List.getElem?_set_ne hj]
/-- the records: Cp 0 the ring, Cp 1 its row -/
abbrev wH (E : EE) (C : Nat → Nat) (sz nw : Int32) (f : Nat → Int32) : va_W := [(C 0, .inr (0, [.ref (C 1), .int sz, .int nw])), (C 1, .inl (E.2.1, 96, .inl f))]
/-- the buffer: Rp 0 itself, Rp 1 its row -/
abbrev wR (E : EE) (R : Nat → Nat) (ln : Int32) (f : Nat → Int32) : va_W := [(R 0, .inr (3, [.ref (R 1), .int ln])), (R 1, .inl (E.2.1, 50, .inl f))]
/-- the object -/
abbrev wO (x : Nat) (B T C R : Nat → Nat) : va_W := [(x, .inr (4, [.ref (B 0), .ref (T 0), .ref (C 0), .ref (R 0)]))]
theorem kp_nw {x : Int32} {W : Nat} (h : x = nI W) (hW : W < 16) : x + 1 - (x + 1) / 16 * 16 = nI ((W + 1) % 16) := by
  rw [h, nI_1, show (16 : Int32) = nI 16 from rfl]
  exact pk_rem (by omega) (by omega) (by omega)
theorem kp_sz {x : Int32} {S : Nat} (h : x = nI S) (hS : S ≤ 16) : (if (16 : Int32) < x + 1 then 16 else x + 1) = nI (min (S + 1) 16) := by
  rw [h, nI_1]
  by_cases q : S = 16
  · subst q; decide
  · rw [if_neg (show ¬ (16 : Int32) < nI (S + 1) from nI_nlt (a := 16) (b := S + 1) (by omega) (by omega)), show min (S + 1) 16 = S + 1 by omega]
theorem kp_at (k : Nat) : nI k * 6 = nI (k * 6) := pk_mul k 6
/-- a record is kept -/
def kpF (W : Nat) (f z : Nat → Int32) (r v : Int32) : Nat → Int32 :=
  upd (upd (upd (upd (upd (upd f ((W + 1) % 16 * 6) (z 17)) ((W + 1) % 16 * 6 + 1) (z 22)) ((W + 1) % 16 * 6 + 2) r) ((W + 1) % 16 * 6 + 3) (z 16)) ((W + 1) % 16 * 6 + 4) (z 20)) ((W + 1) % 16 * 6 + 5) v
theorem pt_ix {x : Int32} {W i : Nat} (h : x = nI W) (hW : W < 16) (hi : i ≤ 16) : x - nI i + 16 - (x - nI i + 16) / 16 * 16 = nI ((W + 16 - i) % 16) := by
  have e : x - nI i + 16 = nI (W + 16 - i) := by
    rw [h, Int32.sub_eq_add_neg, Int32.add_assoc, Int32.add_comm (-nI i) 16, ← Int32.add_assoc, ← Int32.sub_eq_add_neg, show (16 : Int32) = nI 16 from rfl, nI_add, pk_sub (by omega)]
  rw [e, show (16 : Int32) = nI 16 from rfl]
  exact pk_rem (by omega) (by omega) (by omega)
theorem pt_at (k j : Nat) : nI k * 6 + nI j = nI (k * 6 + j) := by rw [show (6 : Int32) = nI 6 from rfl, pk_mul, nI_add]
def lettI (v : Int32) : Int32 := if v = 115 then 2 else (if v = 120 then 2 else (if v = 105 then 1 else (if v = 116 then 1 else (if v = 108 then 1 else (if v = 99 then 1 else (if v = 114 then 1 else -1))))))
theorem lettI_out {v : Int32} (h : v.toInt < 99 ∨ 120 < v.toInt) : lettI v = -1 := by
  have ne : ∀ k : Int32, 99 ≤ k.toInt → k.toInt ≤ 120 → ¬ v = k := fun k h1 h2 e => by subst e; omega
  unfold lettI
  rw [if_neg (ne 115 (by decide) (by decide)), if_neg (ne 120 (by decide) (by decide)), if_neg (ne 105 (by decide) (by decide)), if_neg (ne 116 (by decide) (by decide)), if_neg (ne 108 (by decide) (by decide)), if_neg (ne 99 (by decide) (by decide)), if_neg (ne 114 (by decide) (by decide))]
theorem lettI_in {v : Int32} (h : ¬ (v.toInt < 99 ∨ 120 < v.toInt)) : ∃ k : Nat, k < 22 ∧ v = nI (99 + k) := by
  have h0 : ¬ v < 0 := by
    rw [Int32.lt_iff_toInt_lt]
    have e0 : (0 : Int32).toInt = 0 := by decide
    omega
  obtain ⟨j, hj, rfl⟩ := nI_of h0
  rw [nI_toInt hj] at h
  exact ⟨j - 99, by omega, by rw [show 99 + (j - 99) = j by omega]⟩
def saI (s v : Int32) : Int32 :=
  if s = 0 then lettI v else (if s = 1 then (if v = 48 then 2 else (if inRg v 48 57 = 0 then -1 else 6)) else (if v = 44 then 0 else (if s ≤ 2 then -1 else (if inRg v 48 57 = 0 then -1 else s - 1))))
def eiL (f : Nat → Int32) : Nat → Nat → Int32 → Int32
  | 0, i, _ => nI i
  | n + 1, i, s => if saI s (f i) = -1 then nI i else eiL f n (i + 1) (saI s (f i))
def icL (f : Nat → Int32) : Nat → Nat → Int32 → Int32
  | 0, _, s => s
  | n + 1, i, s => if s = -1 then s else icL f n (i + 1) (saI s (f i))
def icI (f : Nat → Int32) (L : Nat) : Int32 := if icL f L 0 0 < 2 then 0 else 1
