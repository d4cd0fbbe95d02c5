/-! The class's own methods, as functions of the plant's numbers, the records and the buffer. -/
theorem nI_succ_le {k : Nat} {v : Int32} (h : k + 1 < 2 ^ 31) : nI (k + 1) ≤ v ↔ nI k < v := by
  rw [Int32.le_iff_toInt_le, Int32.lt_iff_toInt_lt, nI_toInt h, nI_toInt (by omega)]
  omega
theorem inRg_lt {k : Nat} {v : Int32} (h : k + 1 < 2 ^ 31) : inRg v 0 (nI k) = if v < 0 then 0 else (if nI (k + 1) ≤ v then 0 else 1) := by
  unfold inRg
  by_cases q : nI (k + 1) ≤ v
  · rw [if_pos q, if_pos ((nI_succ_le h).mp q)]
  · rw [if_neg q, if_neg (fun e => q ((nI_succ_le h).mpr e))]
def fitI (v w : Int32) : Int32 := if inRg v 0 14 = 0 then 0 else inRg w (lowT v.toNatClampNeg) (highT v.toNatClampNeg)
theorem fitI_01 (v w : Int32) : fitI v w = 0 ∨ fitI v w = 1 := by
  unfold fitI
  split
  · exact Or.inl rfl
  · exact inRg_01 _ _ _
def sofI (v : Int32) : Int32 := if v = 99 then 5 else (if v = 105 then 0 else (if v = 108 then 2 else (if v = 116 then 1 else -1)))
def romI (v : Int32) (z : Nat → Int32) : Int32 := if 100000 < z 24 + v then 0 else 1
theorem romI_01 (v : Int32) (z : Nat → Int32) : romI v z = 0 ∨ romI v z = 1 := by
  unfold romI
  split
  · exact Or.inl rfl
  · exact Or.inr rfl
def nuX (k : Nat) (sz : Int32) (z : Nat → Int32) (l u q : Int32) : Int32 := if nI k = 14 then sz else nuT k z l u q
theorem num_lt {k : Nat} (h : k < 15) (h2 : ¬ nI k = 14) : k < 14 := by
  rcases Nat.lt_or_ge k 14 with q | q
  · exact q
  · have : k = 14 := by omega
    subst this
    exact absurd rfl h2
/-! cycles of a plant -/
abbrev QS : Type := (Nat → Int32) × Int32 × Int32 × Int32
abbrev HS : Type := Int32 × Int32 × (Nat → Int32)
def pc1 (t : QS) : QS := (pcF t.1 t.2.1 t.2.2.1 t.2.2.2, (pcU t.1 t.2.1 t.2.2.1 t.2.2.2).2.1, (pcU t.1 t.2.1 t.2.2.1 t.2.2.2).2.2.1, (pcU t.1 t.2.1 t.2.2.1 t.2.2.2).2.2.2.1)
theorem pcL_OK : ∀ (n i : Nat) (z : Nat → Int32) (l u q x : Int32), zOK z → zOK (pcL n i z l u q x).1 := by
  intro n
  induction n with
  | zero => intro i z l u q x h; exact h
  | succ n ih => intro i z l u q x h; exact ih _ _ _ _ _ _ (pcD_OK h)
theorem pcL_Z : ∀ (n i : Nat) (z : Nat → Int32) (l u q x : Int32), zOK z → zZ z → zZ (pcL n i z l u q x).1 := by
  intro n
  induction n with
  | zero => intro i z l u q x _ h; exact h
  | succ n ih => intro i z l u q x hz h; exact ih _ _ _ _ _ _ (pcD_OK hz) (pcD_Z hz h)
theorem pcL_g {k : Nat} (hk : k < 15) : ∀ (n i : Nat) (z : Nat → Int32) (l u q x : Int32), (pcL n i z l u q x).1 k = z k := by
  intro n
  induction n with
  | zero => intro i z l u q x; rfl
  | succ n ih =>
    intro i z l u q x
    show (pcL n (i + 1) _ _ _ _ _).1 k = z k
    rw [ih, pcD_g hk]
theorem pcU_OK {z : Nat → Int32} {l u q : Int32} (h : zOK z) : zOK (pcU z l u q).1 := pcL_OK _ _ _ _ _ _ _ (cy3_OK (aim_OK (cy1_OK h)))
theorem pcF_OK {z : Nat → Int32} {l u q : Int32} (h : zOK z) : zOK (pcF z l u q) := by
  unfold pcF
  exact upd_OK (upd_OK (pcU_OK h) (by omega) (by omega) (by omega) (by omega) (by omega)) (by omega) (by omega) (by omega) (by omega) (by omega)
theorem pcF_Z {z : Nat → Int32} {l u q : Int32} (hz : zOK z) (h : zZ z) : zZ (pcF z l u q) := by
  unfold pcF
  exact zZ_of (zZ_of (pcL_Z _ _ _ _ _ _ _ (cy3_OK (aim_OK (cy1_OK hz))) (cy3_Z (aim_OK (cy1_OK hz)) (aim_Z (cy1_Z h)))) (upd_n (by omega)) (fun i h1 h2 => pk_un (by omega))) (upd_n (by omega)) (fun i h1 h2 => pk_un (by omega))
theorem pcF_g {z : Nat → Int32} {l u q : Int32} {k : Nat} (hk : k < 15) : pcF z l u q k = z k := by
  unfold pcF pcU
  rw [pk_un (by omega), pk_un (by omega), pcL_g hk, cy3_g hk, aim_lt (by omega) (by omega), cy1_g hk]
theorem wP_set {E : EE} {B : Nat → Nat} {g z : Nat → Int32} {l u q : Int32} (k : Nat) (w : Int32) (hk : k < 15) : wP E B g z l u q = wP E B g (upd z k w) l u q :=
  wP_congr (fun i hi => pk_un (by have := plI_lt hi; omega)) (fun i h1 h2 => pk_un (by omega))
theorem upd_g {g z : Nat → Int32} {j : Nat} {w : Int32} (h : ∀ k, k < 15 → g k = z k) : ∀ k, k < 15 → upd g j w k = upd z j w k := fun k hk => by
  by_cases e : k = j
  · subst e; rw [pk_us, pk_us]
  · rw [pk_un e, pk_un e, h k hk]
/-! the records -/
def rOK (sz nw : Int32) : Prop := nw = nI nw.toNatClampNeg ∧ nw.toNatClampNeg < 16 ∧ sz = nI sz.toNatClampNeg ∧ sz.toNatClampNeg ≤ 16
theorem rOK_of {S W : Nat} (hS : S ≤ 16) (hW : W < 16) : rOK (nI S) (nI W) := by
  unfold rOK
  rw [nI_clamp (by omega), nI_clamp (by omega)]
  exact ⟨rfl, hW, rfl, hS⟩
theorem rOK_step {sz nw : Int32} : rOK (nI (min (sz.toNatClampNeg + 1) 16)) (nI ((nw.toNatClampNeg + 1) % 16)) := rOK_of (by omega) (by omega)
def pcs1 (t : QS × HS) : QS × HS := (pc1 t.1, nI (min (t.2.1.toNatClampNeg + 1) 16), nI ((t.2.2.1.toNatClampNeg + 1) % 16), kpF t.2.2.1.toNatClampNeg t.2.2.2 (pc1 t.1).1 ((pc1 t.1).2.2.1 - (pc1 t.1).2.1) (limS (pc1 t.1).1 - limS t.1.1))
/-- cycles with their records -/
def pcsL : Nat → QS × HS → QS × HS
  | 0, t => t
  | n + 1, t => pcsL n (pcs1 t)
/-! a program's items -/
def posI (v w : Int32) (z : Nat → Int32) : Int32 := if v = 114 then (if inRg w 1 200 = 0 then 0 else (if romI w z = 0 then 0 else 1)) else (if v = 115 then (if runsI z = 0 then 1 else 0) else (if v = 120 then 1 else fitI (sofI v) w))
theorem posI_01 (v w : Int32) (z : Nat → Int32) : posI v w z = 0 ∨ posI v w z = 1 := by
  unfold posI
  split
  · split
    · exact Or.inl rfl
    · split
      · exact Or.inl rfl
      · exact Or.inr rfl
  · split
    · split
      · exact Or.inr rfl
      · exact Or.inl rfl
    · split
      · exact Or.inr rfl
      · exact fitI_01 _ _
def coF (v w : Int32) (t : QS × HS) : QS × HS := if v = 114 then pcsL w.toNatClampNeg t else (if v = 115 then ((startZ t.1.1, t.1.2), t.2) else (if v = 120 then ((stopTo 0 t.1.1, t.1.2), t.2) else ((upd t.1.1 (sofI v).toNatClampNeg w, t.1.2), t.2)))
def coG (v w : Int32) (g : Nat → Int32) : Nat → Int32 := if v = 114 then g else (if v = 115 then g else (if v = 120 then g else upd g (sofI v).toNatClampNeg w))
/-! looking ahead -/
def hoL (w : Int32) : Nat → QS → Int32 × QS
  | 0, t => (1, t)
  | n + 1, t => if (pc1 t).2.1 < w then (0, pc1 t) else hoL w n (pc1 t)
def hoC (v w : Int32) (t : QS) : Int32 × QS := hoL w 30 (upd t.1 2 v, t.2)
def absI (x : Int32) : Int32 := if 0 ≤ x then x else 0 - x
def stC (b t0 : Int32) : Nat → Nat → Int32 → QS → Int32 × QS
  | 0, _, _, t => (-1, t)
  | n + 1, i, y, t => if (if b < absI ((pc1 t).1 17 - t0) then 0 else y + 1) = 3 then (nI i - 3 + 1, pc1 t) else stC b t0 n (i + 1) (if b < absI ((pc1 t).1 17 - t0) then 0 else y + 1) (pc1 t)
def glC (w : Int32) (t : QS) (g : Nat → Int32) : Nat → (Nat → Int32) × QS → Int32 × (Nat → Int32) × QS
  | 0, T => (-1, T)
  | n + 1, T => if (hoC (nI (500 * n)) w t).1 = 0 then glC w t g n (upd (va_cpy g T.1 0 0 15) 2 (nI (500 * n)), (hoC (nI (500 * n)) w t).2) else (nI (500 * n), upd (va_cpy g T.1 0 0 15) 2 (nI (500 * n)), (hoC (nI (500 * n)) w t).2)
def il1 (t : QS × Int32 × Int32) : QS × Int32 × Int32 := (pc1 t.1, (if (pc1 t.1).2.1 < t.2.1 then (pc1 t.1).2.1 else t.2.1), (if t.2.2 < (pc1 t.1).2.2.1 then (pc1 t.1).2.2.1 else t.2.2))
def ilC : Nat → QS × Int32 × Int32 → QS × Int32 × Int32
  | 0, t => t
  | n + 1, t => ilC n (il1 t)
def ilX (x : Nat) (t : QS × Int32 × Int32) : Int32 := [t.1.1 17, t.2.1, t.2.2, t.1.1 20, t.1.1 16, t.1.2.2.2].getD x 0
theorem pc1_s (z : Nat → Int32) (l u q : Int32) : pc1 (z, l, u, q) = (pcF z l u q, (pcU z l u q).2.1, (pcU z l u q).2.2.1, (pcU z l u q).2.2.2.1) := by
  unfold pc1
  dsimp only
theorem pcsL_s (n : Nat) (z : Nat → Int32) (l u q s w : Int32) (f : Nat → Int32) : pcsL (n + 1) ((z, l, u, q), (s, w, f)) = pcsL n ((pcF z l u q, (pcU z l u q).2.1, (pcU z l u q).2.2.1, (pcU z l u q).2.2.2.1), (nI (min (s.toNatClampNeg + 1) 16), nI ((w.toNatClampNeg + 1) % 16), kpF w.toNatClampNeg f (pcF z l u q) ((pcU z l u q).2.2.1 - (pcU z l u q).2.1) (limS (pcF z l u q) - limS z))) := by
  show pcsL n (pcs1 ((z, l, u, q), (s, w, f))) = _
  unfold pcs1
  dsimp only
  rw [pc1_s]
theorem hoL_s (w : Int32) (n : Nat) (z : Nat → Int32) (l u q : Int32) : hoL w (n + 1) (z, l, u, q) = if (pcU z l u q).2.1 < w then (0, (pcF z l u q, (pcU z l u q).2.1, (pcU z l u q).2.2.1, (pcU z l u q).2.2.2.1)) else hoL w n (pcF z l u q, (pcU z l u q).2.1, (pcU z l u q).2.2.1, (pcU z l u q).2.2.2.1) := by
  show (if (pc1 (z, l, u, q)).2.1 < w then (0, pc1 (z, l, u, q)) else hoL w n (pc1 (z, l, u, q))) = _
  rw [pc1_s]
theorem stC_s (b t0 : Int32) (n i : Nat) (y : Int32) (z : Nat → Int32) (l u q : Int32) : stC b t0 (n + 1) i y (z, l, u, q) = if (if b < absI (pcF z l u q 17 - t0) then 0 else y + 1) = 3 then (nI i - 3 + 1, (pcF z l u q, (pcU z l u q).2.1, (pcU z l u q).2.2.1, (pcU z l u q).2.2.2.1)) else stC b t0 n (i + 1) (if b < absI (pcF z l u q 17 - t0) then 0 else y + 1) (pcF z l u q, (pcU z l u q).2.1, (pcU z l u q).2.2.1, (pcU z l u q).2.2.2.1) := by
  show (if (if b < absI ((pc1 (z, l, u, q)).1 17 - t0) then 0 else y + 1) = 3 then (nI i - 3 + 1, pc1 (z, l, u, q)) else stC b t0 n (i + 1) (if b < absI ((pc1 (z, l, u, q)).1 17 - t0) then 0 else y + 1) (pc1 (z, l, u, q))) = _
  rw [pc1_s]
theorem ilC_s (n : Nat) (z : Nat → Int32) (l u q a b : Int32) : ilC (n + 1) ((z, l, u, q), a, b) = ilC n ((pcF z l u q, (pcU z l u q).2.1, (pcU z l u q).2.2.1, (pcU z l u q).2.2.2.1), (if (pcU z l u q).2.1 < a then (pcU z l u q).2.1 else a), (if b < (pcU z l u q).2.2.1 then (pcU z l u q).2.2.1 else b)) := by
  show ilC n (il1 ((z, l, u, q), a, b)) = _
  unfold il1
  dsimp only
  rw [pc1_s]
theorem hoC_s (v w : Int32) (z : Nat → Int32) (l u q : Int32) : hoC v w (z, l, u, q) = hoL w 30 (upd z 2 v, l, u, q) := by
  unfold hoC
  dsimp only
theorem pos_114 {v w : Int32} {z : Nat → Int32} (e : v = 114) (h : ¬ posI v w z = 0) : ¬ inRg w 1 200 = 0 := fun q => h (by unfold posI; rw [if_pos e, if_pos q])
theorem pos_set {v w : Int32} {z : Nat → Int32} (e1 : ¬ v = 114) (e2 : ¬ v = 115) (e3 : ¬ v = 120) (h : ¬ posI v w z = 0) : ¬ fitI (sofI v) w = 0 := fun q => h (by unfold posI; rw [if_neg e1, if_neg e2, if_neg e3, q])
theorem fit_in {v w : Int32} (h : ¬ fitI v w = 0) : ¬ inRg v 0 14 = 0 := fun q => h (by unfold fitI; rw [if_pos q])
theorem fit_w {v w : Int32} (h : ¬ fitI v w = 0) : ¬ inRg w (lowT v.toNatClampNeg) (highT v.toNatClampNeg) = 0 := fun q => h (by unfold fitI; rw [if_neg (fit_in h), q])
theorem glC_s (w : Int32) (z : Nat → Int32) (l u q : Int32) (g : Nat → Int32) (n : Nat) (g2 z2 : Nat → Int32) (l2 u2 q2 : Int32) : glC w (z, l, u, q) g (n + 1) (g2, z2, l2, u2, q2) = if (hoC (nI (500 * n)) w (z, l, u, q)).1 = 0 then glC w (z, l, u, q) g n (upd (va_cpy g g2 0 0 15) 2 (nI (500 * n)), (hoC (nI (500 * n)) w (z, l, u, q)).2) else (nI (500 * n), upd (va_cpy g g2 0 0 15) 2 (nI (500 * n)), (hoC (nI (500 * n)) w (z, l, u, q)).2) := by
  rw [glC]
theorem hoC_01 (v w : Int32) (t : QS) : (hoC v w t).1 = 0 ∨ (hoC v w t).1 = 1 := by
  have key : ∀ (n : Nat) (t : QS), (hoL w n t).1 = 0 ∨ (hoL w n t).1 = 1 := by
    intro n
    induction n with
    | zero => intro t; exact Or.inr rfl
    | succ n ih =>
      intro t
      unfold hoL
      split
      · exact Or.inl rfl
      · exact ih _
  exact key _ _
