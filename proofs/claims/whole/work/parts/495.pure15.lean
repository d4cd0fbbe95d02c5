/-! Looking ahead: the class's plant beside the reference's row. -/
def RC (κ : Int32) (t : QS) (z G : Nat → Int32) : Prop := ag t.1 z ∧ t.2.2.2 = mx κ (G 7)
theorem RC_step {κ : Int32} {t : QS} {z G : Nat → Int32} (hz : zOK z) (h : RC κ t z G) : RC κ (pc1 t) (cycle z G).1 (cycle z G).2 ∧ (cycle z G).1 23 = (pc1 t).2.2.1 - (pc1 t).2.1 ∧
    (¬ 1000000 < G 5 → (cycle z G).2 5 = mn (G 5) (pc1 t).2.1) ∧ (¬ G 6 < -1 → (cycle z G).2 6 = mx (G 6) (pc1 t).2.2.1) ∧ ¬ 40000 < (pc1 t).2.1 ∧ ¬ (pc1 t).2.2.1 < 0 := by
  obtain ⟨y, l, u, q⟩ := t
  obtain ⟨h1, h2⟩ := h
  obtain ⟨a1, a2⟩ := ag_pc (l := l) (u := u) (q := q) hz h1
  obtain ⟨b1, b2, b3, b4, b5, b6, b7⟩ := pcF_cycK (κ := κ) (z := z) (G := G) (l := l) (u := u) (q := q) h2
  rw [pc1_s]
  unfold RC
  dsimp only at a1 a2 ⊢
  rw [a2]
  exact ⟨⟨fun j hj => (a1 j hj).trans (b1 j hj), b2⟩, b3, b4, b5, b6, b7⟩
theorem ho_eq {κ w : Int32} : ∀ (n : Nat) (t : QS) (z G : Nat → Int32), zOK z → RC κ t z G → ¬ 1000000 < G 5 → (((hoL w n t).1 = 0 ∨ G 5 < w) ↔ (runL n z G).2 5 < w) := by
  intro n
  induction n with
  | zero =>
    intro t z G _ _ _
    refine ⟨fun h => ?_, fun h => Or.inr h⟩
    rcases h with h | h
    · exact absurd h (by show ¬ (1 : Int32) = 0; decide)
    · exact h
  | succ n ih =>
    intro t z G hz h h5
    obtain ⟨a1, -, a3, -, a5, -⟩ := RC_step hz h
    have a3 := a3 h5
    have key := ih (pc1 t) (cycle z G).1 (cycle z G).2 (cycle_OK hz) a1 (by
      rw [a3, Int32.lt_iff_toInt_lt, mn_toInt]
      rw [Int32.lt_iff_toInt_lt] at h5
      omega)
    rw [hoL, runL, ← key, a3, mn_lt]
    by_cases e : (pc1 t).2.1 < w
    · rw [if_pos e]
      exact ⟨fun _ => Or.inr (Or.inr e), fun _ => Or.inl rfl⟩
    · rw [if_neg e]
      refine ⟨fun h => ?_, fun h => ?_⟩
      · rcases h with h | h
        · exact Or.inl h
        · exact Or.inr (Or.inl h)
      · rcases h with h | h | h
        · exact Or.inl h
        · exact Or.inr h
        · exact absurd h e
theorem layE_5 {G : Nat → Int32} : layE G 5 = 1000000 := by
  unfold layE
  rw [pk_un (by omega), pk_un (by omega), pk_us]
theorem layE_6 {G : Nat → Int32} : layE G 6 = -1 := by
  unfold layE
  rw [pk_un (by omega), pk_us]
theorem layE_7 {G : Nat → Int32} : layE G 7 = 0 := by
  unfold layE
  rw [pk_us]
theorem RC_0 {z G : Nat → Int32} {l u q : Int32} (hq : 0 ≤ q) : RC q (z, l, u, q) z (layE G) := ⟨ag_rfl, by
  rw [layE_7]
  exact (mx_le hq).symm⟩
theorem hoC_eq {v w : Int32} {z G : Nat → Int32} {l u q : Int32} (hz : zOK z) (hq : 0 ≤ q) (hw : ¬ 40000 < w) : (hoC v w (z, l, u, q)).1 = hoR v w z G := by
  have hz2 : zOK (upd z 2 v) := upd_OK hz (by omega) (by omega) (by omega) (by omega) (by omega)
  have key := ho_eq (κ := q) (w := w) 30 (upd z 2 v, l, u, q) (upd z 2 v) (layE G) hz2 (RC_0 hq) (by rw [layE_5]; decide)
  have h01 := hoC_01 v w (z, l, u, q)
  rw [hoC_s] at h01 ⊢
  unfold hoR hoU
  rw [layE_5] at key
  have hw2 : ¬ (1000000 : Int32) < w := by
    rw [Int32.lt_iff_toInt_lt] at hw ⊢
    have e1 : (1000000 : Int32).toInt = 1000000 := by decide
    have e2 : (40000 : Int32).toInt = 40000 := by decide
    omega
  by_cases e : (runL 30 (upd z 2 v) (layE G)).2 5 < w
  · rw [if_pos e]
    rcases key.mpr e with h | h
    · exact h
    · exact absurd h hw2
  · rw [if_neg e]
    rcases h01 with h | h
    · exact absurd (key.mp (Or.inl h)) e
    · exact h
theorem glC_eq {w : Int32} {z g : Nat → Int32} {l u q : Int32} (hz : zOK z) (hq : 0 ≤ q) (hw : ¬ 40000 < w) : ∀ (n : Nat) (T : (Nat → Int32) × QS) (a G : Nat → Int32), n ≤ 41 → (glC w (z, l, u, q) g n T).1 = (if (glL w z n a G).1 < 0 then -1 else (glL w z n a G).1) := by
  intro n
  induction n with
  | zero => intro T a G _; rfl
  | succ n ih =>
    intro T a G hn
    rw [glC, glL, hoC_eq (G := G) hz hq hw]
    by_cases e : hoR (nI (500 * n)) w z G = 0
    · rw [if_pos e, if_pos e]
      exact ih _ _ _ (by omega)
    · rw [if_neg e, if_neg e, if_neg (nI_pos (by omega))]
def IL (t : QS × Int32 × Int32) (G : Nat → Int32) : Prop := t.2.1 = G 5 ∧ t.2.2 = G 6
theorem il_step {κ : Int32} {t : QS × Int32 × Int32} {z G : Nat → Int32} (hz : zOK z) (h : RC κ t.1 z G) (h5 : ¬ 1000000 < G 5) (h6 : ¬ G 6 < -1) (hl : IL t G ∨ (t.2.1 = 40000 ∧ t.2.2 = 0 ∧ G 5 = 1000000 ∧ G 6 = -1)) :
    RC κ (il1 t).1 (cycle z G).1 (cycle z G).2 ∧ IL (il1 t) (cycle z G).2 ∧ ¬ 1000000 < (cycle z G).2 5 ∧ ¬ (cycle z G).2 6 < -1 := by
  obtain ⟨a1, -, a3, a4, a5, a6⟩ := RC_step hz h
  have a3 := a3 h5
  have a4 := a4 h6
  have i1 : (il1 t).2.1 = (if (pc1 t.1).2.1 < t.2.1 then (pc1 t.1).2.1 else t.2.1) := by
    unfold il1
    dsimp only
  have i2 : (il1 t).2.2 = (if t.2.2 < (pc1 t.1).2.2.1 then (pc1 t.1).2.2.1 else t.2.2) := by
    unfold il1
    dsimp only
  refine ⟨a1, ⟨?_, ?_⟩, ?_, ?_⟩
  · rw [a3]
    rw [i1]
    rcases hl with hl | hl
    · rw [hl.1, lo_same]; rfl
    · rw [hl.1, hl.2.2.1, lo_same]
      show mn 40000 _ = mn 1000000 _
      apply Int32.toInt_inj.mp
      rw [mn_toInt, mn_toInt]
      rw [Int32.lt_iff_toInt_lt] at a5
      have e1 : (1000000 : Int32).toInt = 1000000 := by decide
      have e2 : (40000 : Int32).toInt = 40000 := by decide
      omega
  · rw [a4]
    rw [i2]
    rcases hl with hl | hl
    · rw [hl.2, hi_same]; rfl
    · rw [hl.2.1, hl.2.2.2, hi_same]
      show mx 0 _ = mx (-1) _
      apply Int32.toInt_inj.mp
      rw [mx_toInt, mx_toInt]
      rw [Int32.lt_iff_toInt_lt] at a6
      have e1 : (-1 : Int32).toInt = -1 := by decide
      have e2 : (0 : Int32).toInt = 0 := by decide
      omega
  · rw [a3, Int32.lt_iff_toInt_lt, mn_toInt]
    rw [Int32.lt_iff_toInt_lt] at h5
    omega
  · rw [a4, Int32.lt_iff_toInt_lt, mx_toInt]
    rw [Int32.lt_iff_toInt_lt] at h6
    omega
theorem il_eq {κ : Int32} : ∀ (n : Nat) (t : QS × Int32 × Int32) (z G : Nat → Int32), zOK z → RC κ t.1 z G → ¬ 1000000 < G 5 → ¬ G 6 < -1 → IL t G → RC κ (ilC n t).1 (runL n z G).1 (runL n z G).2 ∧ IL (ilC n t) (runL n z G).2 := by
  intro n
  induction n with
  | zero => intro t z G _ h _ _ hl; exact ⟨h, hl⟩
  | succ n ih =>
    intro t z G hz h h5 h6 hl
    obtain ⟨a1, a2, a3, a4⟩ := il_step hz h h5 h6 (Or.inl hl)
    rw [ilC, runL]
    exact ih _ _ _ (cycle_OK hz) a1 a3 a4 a2
theorem mx_min (x : Int32) : mx (-2147483648) x = x := by
  apply Int32.toInt_inj.mp
  rw [mx_toInt]
  have e1 : (-2147483648 : Int32).toInt = -2147483648 := by decide
  have := x.le_toInt
  omega
theorem ilX_eq {v : Int32} {V k : Nat} {z G : Nat → Int32} {l u : Int32} (hz : zOK z) (hV1 : 1 ≤ V) (hV : V ≤ 100) (hk : k < 6) : ilX k (ilC V ((upd z 2 v, l, u, 0), 40000, 0)) = ilA (nI k) (ilU v (nI V) z G) := by
  have hz2 : zOK (upd z 2 v) := upd_OK hz (by omega) (by omega) (by omega) (by omega) (by omega)
  obtain ⟨n, rfl⟩ : ∃ n, V = n + 1 := ⟨V - 1, by omega⟩
  have h0 : RC (-2147483648) (((upd z 2 v, l, u, 0), 40000, 0) : QS × Int32 × Int32).1 (upd z 2 v) (layE (upd G 0 0)) := ⟨ag_rfl, by rw [layE_7, mx_min]⟩
  obtain ⟨a1, a2, a3, a4⟩ := il_step hz2 h0 (by rw [layE_5]; decide) (by rw [layE_6]; decide) (Or.inr ⟨rfl, rfl, layE_5, layE_6⟩)
  obtain ⟨b1, b2⟩ := il_eq n _ _ _ (cycle_OK hz2) a1 a3 a4 a2
  unfold ilU
  rw [nI_clamp (by omega), runL, ilC]
  generalize ilC n (il1 ((upd z 2 v, l, u, 0), 40000, 0)) = T at b1 b2 ⊢
  generalize runL n (cycle (upd z 2 v) (layE (upd G 0 0))).1 (cycle (upd z 2 v) (layE (upd G 0 0))).2 = U at b1 b2 ⊢
  obtain rfl | rfl | rfl | rfl | rfl | rfl : k = 0 ∨ k = 1 ∨ k = 2 ∨ k = 3 ∨ k = 4 ∨ k = 5 := by omega
  · show T.1.1 17 = U.1 17
    exact b1.1 17 (by omega)
  · show T.2.1 = U.2 5
    exact b2.1
  · show T.2.2 = U.2 6
    exact b2.2
  · show T.1.1 20 = U.1 20
    exact b1.1 20 (by omega)
  · show T.1.1 16 = U.1 16
    exact b1.1 16 (by omega)
  · show T.1.2.2.2 = U.2 7
    rw [b1.2, mx_min]
theorem cyc_set {z G : Nat → Int32} {k : Nat} (hk : k < 15) : (cycle z G).1 k = z k := by
  have h := (pcF_cycK (κ := -2147483648) (z := z) (G := G) (l := 0) (u := 0) (q := G 7) (mx_min _).symm).1 k (by omega)
  rw [← h, pcF_g hk]
theorem abs_in {x y b : Int32} (hx0 : ¬ x < 0) (hx1 : ¬ 40000 < x) (hy0 : ¬ y < 0) (hy1 : ¬ 40000 < y) (hb0 : ¬ b < 0) (hb1 : ¬ 5000 < b) : b < absI (x - y) ↔ inRg (x - y) (-b) b = 0 := by
  obtain ⟨i, hi, rfl⟩ := nI_of2 (M := 40000) (n := 40000) (by decide) hx0 (int_nlt hx1)
  obtain ⟨j, hj, rfl⟩ := nI_of2 (M := 40000) (n := 40000) (by decide) hy0 (int_nlt hy1)
  obtain ⟨d, hd, rfl⟩ := nI_of2 (M := 5000) (n := 5000) (by decide) hb0 (int_nlt hb1)
  have ed : (nI d).toInt = d := nI_toInt (by omega)
  have en : (-nI d).toInt = -(d : Int) := by
    rw [← Int32.zero_sub, show (0 : Int32) = nI 0 from rfl, pk_sub_toInt (by omega) (by omega)]
    omega
  have ex : (nI i - nI j).toInt = (i : Int) - j := pk_sub_toInt (by omega) (by omega)
  have ey : (0 - (nI i - nI j)).toInt = (j : Int) - i := by
    have e0 : 0 - (nI i - nI j) = nI j - nI i := by
      rw [Int32.zero_sub, Int32.neg_sub]
    rw [e0, pk_sub_toInt (by omega) (by omega)]
  have e00 : (0 : Int32).toInt = 0 := by decide
  unfold absI inRg
  by_cases h0 : 0 ≤ nI i - nI j
  · rw [if_pos h0]
    rw [Int32.le_iff_toInt_le, ex, e00] at h0
    by_cases h1 : nI i - nI j < -nI d
    · rw [Int32.lt_iff_toInt_lt, ex, en] at h1
      omega
    · rw [if_neg h1]
      by_cases h2 : nI d < nI i - nI j
      · rw [if_pos h2]; exact ⟨fun _ => rfl, fun _ => h2⟩
      · rw [if_neg h2]; exact ⟨fun h => absurd h h2, fun h => absurd h (by decide)⟩
  · rw [if_neg h0]
    rw [Int32.le_iff_toInt_le, ex, e00] at h0
    by_cases h1 : nI i - nI j < -nI d
    · rw [if_pos h1]
      rw [Int32.lt_iff_toInt_lt, ex, en] at h1
      refine ⟨fun _ => rfl, fun _ => ?_⟩
      rw [Int32.lt_iff_toInt_lt, ed, ey]
      omega
    · rw [if_neg h1]
      rw [Int32.lt_iff_toInt_lt, ex, en] at h1
      by_cases h2 : nI d < nI i - nI j
      · rw [Int32.lt_iff_toInt_lt, ed, ex] at h2
        omega
      · rw [if_neg h2]
        refine ⟨fun h => ?_, fun h => absurd h (by decide)⟩
        rw [Int32.lt_iff_toInt_lt, ed, ey] at h
        omega
def stE (u : Int32 × Int32 × (Nat → Int32)) : Int32 := if u.1 = 3 then u.2.1 - 2 else -1
theorem st_eq {κ b : Int32} (hb0 : ¬ b < 0) (hb1 : ¬ 5000 < b) : ∀ (n i : Nat) (y : Int32) (t : QS) (z G : Nat → Int32), zOK z → RC κ t z G → (¬ z 1 < 0 ∧ ¬ 40000 < z 1) → (y = 0 ∨ y = 1 ∨ y = 2) → (stC b (z 1) n (i + 1) y t).1 = stE (stL b n i y z G) := by
  intro n
  induction n with
  | zero =>
    intro i y t z G _ _ _ hy
    show (-1 : Int32) = stE (y, nI i, G)
    unfold stE
    dsimp only
    rw [if_neg]
    rcases hy with h | h | h <;> rw [h] <;> decide
  | succ n ih =>
    intro i y t z G hz h h1 hy
    obtain ⟨a1, -⟩ := RC_step hz h
    have hc := cyc_17 (z := z) (G := G)
    have e17 : (pc1 t).1 17 = (cycle z G).1 17 := a1.1 17 (by omega)
    have e1 : (cycle z G).1 1 = z 1 := cyc_set (by omega)
    have hy3 : ¬ (3 : Int32) ≤ y := by rcases hy with h | h | h <;> rw [h] <;> decide
    have ey : (if b < absI ((pc1 t).1 17 - z 1) then 0 else y + 1) = stI b y z G := by
      unfold stI
      rw [e17, e1]
      have hab := abs_in hc.1 hc.2 h1.1 h1.2 hb0 hb1
      by_cases e : inRg ((cycle z G).1 17 - z 1) (-b) b = 0
      · rw [if_pos e, if_pos (hab.mpr e)]
      · rw [if_neg e, if_neg (fun q => e (hab.mp q))]
    rw [stC, stL, if_neg hy3, ey]
    by_cases e3 : stI b y z G = 3
    · rw [if_pos e3, e3]
      have es : stL b n (i + 1) 3 (cycle z G).1 (cycle z G).2 = (3, nI (i + 1), (cycle z G).2) := by
        cases n with
        | zero => rfl
        | succ n => rw [stL, if_pos (by decide)]
      rw [es]
      show nI (i + 1) - 3 + 1 = stE (3, nI (i + 1), (cycle z G).2)
      unfold stE
      rw [if_pos rfl]
      show nI (i + 1) - 3 + 1 = nI (i + 1) - 2
      rw [Int32.sub_eq_add_neg, Int32.add_assoc, show (-3 : Int32) + 1 = -2 by decide, ← Int32.sub_eq_add_neg]
    · rw [if_neg e3]
      have hy' : stI b y z G = 0 ∨ stI b y z G = 1 ∨ stI b y z G = 2 := by
        unfold stI at e3 ⊢
        by_cases e : inRg ((cycle z G).1 17 - (cycle z G).1 1) (-b) b = 0
        · rw [if_pos e]; exact Or.inl rfl
        · rw [if_neg e] at e3 ⊢
          rcases hy with h | h | h
          · rw [h]; exact Or.inr (Or.inl (by decide))
          · rw [h]; exact Or.inr (Or.inr (by decide))
          · rw [h] at e3; exact absurd (by decide) e3
      have key := ih (i + 1) (stI b y z G) (pc1 t) (cycle z G).1 (cycle z G).2 (cycle_OK hz) a1 (by rw [e1]; exact h1) hy'
      rw [e1] at key
      exact key
theorem stR_eq {b : Int32} {z G : Nat → Int32} {l u q : Int32} (hz : zOK z) (hq : 0 ≤ q) (hb0 : ¬ b < 0) (hb1 : ¬ 5000 < b) (h1 : ¬ z 1 < 0 ∧ ¬ 40000 < z 1) : (stC b (z 1) 202 1 0 (z, l, u, q)).1 = stR b z G := by
  have key := st_eq (κ := q) hb0 hb1 202 0 0 (z, l, u, q) z (layE G) hz (RC_0 hq) h1 (Or.inl rfl)
  unfold stR stU
  exact key
