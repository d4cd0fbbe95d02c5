/-! Items of a program one after the other; the hash; what stays so. -/
theorem set_OK {v w : Int32} {z : Nat → Int32} (hz : zOK z) (h : ¬ fitI v w = 0) : zOK (upd z v.toNatClampNeg w) := by
  have e : setZ v w z = upd z v.toNatClampNeg w := by
    unfold setZ
    rw [if_neg (fit_in h), if_neg (fit_w h)]
  rw [← e]
  exact setZ_OK hz
theorem set_Z {k : Nat} {w : Int32} {z : Nat → Int32} (hk : k < 15) (h : zZ z) : zZ (upd z k w) := zZ_of h (upd_n (by omega)) (fun i h1 h2 => pk_un (by omega))
theorem startZ_ge {z : Nat → Int32} {j : Nat} (h : 35 + 7 * nOf z ≤ j) : startZ z j = z j := by
  have key : ∀ (n i : Nat) (y : Nat → Int32), 35 + 7 * (i + n) ≤ j → startL n i y j = y j := by
    intro n
    induction n with
    | zero => intro i y _; rfl
    | succ n ih =>
      intro i y hb
      show startL n (i + 1) _ j = y j
      rw [ih _ _ (by omega), pk_un (by omega)]
  unfold startZ
  rw [key _ _ _ (by omega), pk_un (by omega), pk_un (by omega), pk_un (by omega), pk_un (by omega), pk_un (by omega), pk_un (by omega)]
theorem startZ_lt {z : Nat → Int32} {j : Nat} (h : j < 15 ∨ j = 15 ∨ j = 17 ∨ (20 < j ∧ j < 29) ∨ (30 < j ∧ j < 35)) : startZ z j = z j := by
  unfold startZ
  rw [startL_lt (by omega), pk_un (by omega), pk_un (by omega), pk_un (by omega), pk_un (by omega), pk_un (by omega), pk_un (by omega)]
theorem startZ_Z {z : Nat → Int32} (h : zZ z) : zZ (startZ z) := zZ_of h (nOf_of (startZ_lt (by omega))) (fun i h1 _ => startZ_ge h1)
/-- what stays so of the class's numbers -/
def tOK (g : Nat → Int32) (t : QS × HS) : Prop := zOK t.1.1 ∧ zZ t.1.1 ∧ (∀ k, k < 15 → g k = t.1.1 k) ∧ rOK t.2.1 t.2.2.1
theorem pcs1_OK {g : Nat → Int32} {t : QS × HS} (h : tOK g t) : tOK g (pcs1 t) :=
  ⟨pcF_OK h.1, pcF_Z h.1 h.2.1, fun k hk => (h.2.2.1 k hk).trans (pcF_g hk).symm, rOK_step⟩
theorem pcsL_OK {g : Nat → Int32} : ∀ (n : Nat) (t : QS × HS), tOK g t → tOK g (pcsL n t) := by
  intro n
  induction n with
  | zero => intro t h; exact h
  | succ n ih => intro t h; exact ih _ (pcs1_OK h)
theorem coF_OK {v w : Int32} {g : Nat → Int32} {t : QS × HS} (hp : ¬ posI v w t.1.1 = 0) (h : tOK g t) : tOK (coG v w g) (coF v w t) := by
  unfold coF coG
  by_cases e1 : v = 114
  · rw [if_pos e1, if_pos e1]
    exact pcsL_OK _ _ h
  · rw [if_neg e1, if_neg e1]
    by_cases e2 : v = 115
    · rw [if_pos e2, if_pos e2]
      exact ⟨startZ_OK h.1, startZ_Z h.2.1, fun k hk => (h.2.2.1 k hk).trans (startZ_lt (by omega)).symm, h.2.2.2⟩
    · rw [if_neg e2, if_neg e2]
      by_cases e3 : v = 120
      · rw [if_pos e3, if_pos e3]
        exact ⟨stopTo_OK h.1, stopTo_Z h.2.1, fun k hk => (h.2.2.1 k hk).trans (stopTo_g hk).symm, h.2.2.2⟩
      · rw [if_neg e3, if_neg e3]
        have hf := pos_set e1 e2 e3 hp
        exact ⟨set_OK h.1 hf, set_Z (inRg_ix (n := 14) (by decide) (fit_in hf)).2 h.2.1, upd_g h.2.2.1, h.2.2.2⟩
def plX (ln : Int32) (cd : Nat → Int32) (i : Nat) : Int32 := if ln ≤ nI i then 44 else cd i
/-- a program's items: how many are left, the place, whether it goes on, the count, the letter, the number, the settings, the rest -/
def plyL (ln : Int32) (cd : Nat → Int32) : Nat → Nat → Int32 → Int32 → Int32 → Int32 → (Nat → Int32) → QS × HS → Int32 × (Nat → Int32) × (QS × HS)
  | 0, _, _, c, _, _, g, t => (c, g, t)
  | n + 1, i, p, c, le, nu, g, t => if p = 0 then (c, g, t) else (if plX ln cd i = 44 then (if posI le nu t.1.1 = 0 then plyL ln cd n (i + 1) (posI le nu t.1.1) c le 0 g t else plyL ln cd n (i + 1) (posI le nu t.1.1) (c + 1) le 0 (coG le nu g) (coF le nu t)) else (if inRg (plX ln cd i) 48 57 = 0 then plyL ln cd n (i + 1) p c (plX ln cd i) nu g t else plyL ln cd n (i + 1) p c le (10 * nu + plX ln cd i - 48) g t))
theorem plyL_s (ln : Int32) (cd : Nat → Int32) (n i : Nat) (p c le nu : Int32) (g z : Nat → Int32) (l u q s w : Int32) (f : Nat → Int32) : plyL ln cd (n + 1) i p c le nu g ((z, l, u, q), (s, w, f)) = if p = 0 then (c, g, ((z, l, u, q), (s, w, f))) else (if plX ln cd i = 44 then (if posI le nu z = 0 then plyL ln cd n (i + 1) (posI le nu z) c le 0 g ((z, l, u, q), (s, w, f)) else plyL ln cd n (i + 1) (posI le nu z) (c + 1) le 0 (coG le nu g) (coF le nu ((z, l, u, q), (s, w, f)))) else (if inRg (plX ln cd i) 48 57 = 0 then plyL ln cd n (i + 1) p c (plX ln cd i) nu g ((z, l, u, q), (s, w, f)) else plyL ln cd n (i + 1) p c le (10 * nu + plX ln cd i - 48) g ((z, l, u, q), (s, w, f)))) := by
  rw [plyL]
/-- a hash of rows of numbers -/
def dgN (F : Nat → Nat → Int64) (M : Nat) : Nat → Nat → Int64 → Int64
  | 0, _, h => h
  | n + 1, i, h => dgN F M n (i + 1) (dgL (F i) M 0 h)
def dgX (sz nw : Int32) (pf z : Nat → Int32) (lo up pk ln : Int32) (cd : Nat → Int32) (L : Nat) (x : Int32) : Int64 :=
  dgL (fun i => (cd i).toInt64) L 0 (31 * (31 * (31 * dgN (fun i j => (pf ((nw.toNatClampNeg + 16 - i) % 16 * 6 + j)).toInt64) 6 sz.toNatClampNeg 0 (dgN (fun i j => (z (35 + 7 * i + j)).toInt64) 7 (nOf z) 0 (dgL (fun i => (z i).toInt64) 15 0 (dgL (fun i => (nuX i sz z lo up pk).toInt64) 15 0 2017))) + x.toInt64) + (unlike z).toInt64) + ln.toInt64)
