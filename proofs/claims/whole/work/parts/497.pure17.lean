/-! What the calls do to the class's numbers beside the reference's. -/
theorem RLs_at {g : Nat → Int32} {t : QS × HS} {z y : Nat → Int32} {x : QS} (h : RLs g t z) (hz : zOK y ∧ zZ y ∧ lOK y) (hg : ∀ k, k < 15 → y k = z k) (ha : ag x.1 y) (hx : x.2 = t.1.2) (e23 : y 23 = z 23) (e27 : y 27 = z 27) (e31 : y 31 = z 31) (hr : ∀ k, 63 ≤ k → y k = z k) : RLs g (x, t.2) y := by
  obtain ⟨-, h2, -, ⟨h4, h5, h6⟩, h7, h8, h9, h10⟩ := h
  refine ⟨hz, fun k hk => (h2 k hk).trans (hg k hk).symm, ha, ⟨?_, ?_, ?_⟩, ?_, h8, ?_, fun i j hi hj => ?_⟩
  · show y 23 = x.2.2.1 - x.2.1
    rw [hx, e23, h4]
  · show x.2.2.2 = y 27
    rw [hx, e27, h5]
  · rw [e27]; exact h6
  · rw [hg 1 (by omega)]; exact h7
  · rw [e31]; exact h9
  · rw [hr _ (by omega)]
    exact h10 i j hi hj
theorem ov_startL {y : Nat → Int32} : ∀ (n i : Nat) (z : Nat → Int32), i + n ≤ 4 → startL n i (ov y z) = ov y (startL n i z) := by
  intro n
  induction n with
  | zero => intro i z _; rfl
  | succ n ih =>
    intro i z h
    show startL n (i + 1) (upd (ov y z) (35 + 7 * i + 2) 0) = ov y (startL n (i + 1) (upd z (35 + 7 * i + 2) 0))
    rw [ov_up (by omega)]
    exact ih _ _ (by omega)
theorem ov_startZ {y z : Nat → Int32} (h : nOf z ≤ 4) : startZ (ov y z) = ov y (startZ z) := by
  unfold startZ
  rw [ov_n]
  simp (disch := omega) only [ov_rd, ov_up]
  rw [ov_startL _ _ _ (by omega)]
theorem ag_startZ {y z : Nat → Int32} (hz : zOK z) (h : ag y z) : ag (startZ y) (startZ z) := by
  have e := ov_startZ (y := y) hz.2.2.1
  rw [ag_ov h] at e
  rw [e]
  exact ov_ag
theorem ag_stopTo {v : Int32} {y z : Nat → Int32} (hz : zOK z) (h : ag y z) : ag (stopTo v y) (stopTo v z) := by
  have e := ov_stopTo (y := y) (v := v) hz.2.2.1
  rw [ag_ov h] at e
  rw [e]
  exact ov_ag
theorem startZ_l {z : Nat → Int32} (h : lOK z) : lOK (startZ z) := by
  have e : ∀ p j, j < 7 → j ≠ 2 → startZ z (35 + 7 * p + j) = z (35 + 7 * p + j) := by
    intro p j h1 h2
    unfold startZ
    rw [startL_in _ _ _ _ _ h1, if_neg (by omega), pk_un (by omega), pk_un (by omega), pk_un (by omega), pk_un (by omega), pk_un (by omega), pk_un (by omega)]
  exact lOK_of h (startZ_lt (by omega)) (fun p => e p 4 (by omega) (by omega)) (fun p => e p 5 (by omega) (by omega)) (startZ_lt (by omega)) (startZ_lt (by omega))
theorem RLs_start {g : Nat → Int32} {t : QS × HS} {z : Nat → Int32} (h : RLs g t z) : RLs g ((startZ t.1.1, t.1.2), t.2) (startZ z) := by
  have hz := h.1.1
  have h4 := hz.2.2.1
  exact RLs_at h ⟨startZ_OK hz, startZ_Z h.1.2.1, startZ_l h.1.2.2⟩ (fun k hk => startZ_lt (by omega)) (ag_startZ hz h.2.2.1) rfl (startZ_lt (by omega)) (startZ_lt (by omega)) (startZ_lt (by omega)) (fun k hk => startZ_ge (by omega))
theorem RLs_stop {g : Nat → Int32} {t : QS × HS} {z : Nat → Int32} {v : Int32} (h : RLs g t z) : RLs g ((stopTo v t.1.1, t.1.2), t.2) (stopTo v z) := by
  have hz := h.1.1
  have h4 := hz.2.2.1
  exact RLs_at h ⟨stopTo_OK hz, stopTo_Z h.1.2.1, stopTo_l h.1.2.2⟩ (fun k hk => stopTo_lt (by omega) (by omega)) (ag_stopTo hz h.2.2.1) rfl (stopTo_lt (by omega) (by omega)) (stopTo_lt (by omega) (by omega)) (stopTo_lt (by omega) (by omega)) (fun k hk => stopTo_ge (by omega))
theorem ag_upd {y z : Nat → Int32} {k : Nat} {v : Int32} (h : ag y z) : ag (upd y k v) (upd z k v) := fun j hj => by
  by_cases e : j = k
  · subst e; rw [pk_us, pk_us]
  · rw [pk_un e, pk_un e]; exact h j hj
theorem inRg_sub {v lo hi : Int32} (h : ¬ inRg v lo hi = 0) (h0 : 0 ≤ lo) (h4 : hi ≤ 40000) : ¬ v < 0 ∧ ¬ 40000 < v := by
  obtain ⟨h1, h2⟩ := inRg_ok h
  rw [Int32.lt_iff_toInt_lt] at h1 h2 ⊢
  rw [Int32.lt_iff_toInt_lt]
  rw [Int32.le_iff_toInt_le] at h0 h4
  omega
theorem RLs_set {g : Nat → Int32} {t : QS × HS} {z : Nat → Int32} {v w : Int32} (h : RLs g t z) (hf : ¬ fitI v w = 0) : RLs (upd g v.toNatClampNeg w) ((upd t.1.1 v.toNatClampNeg w, t.1.2), t.2) (upd z v.toNatClampNeg w) := by
  obtain ⟨-, hk⟩ := inRg_ix (n := 14) (by decide) (fit_in hf)
  have hw := fit_w hf
  have hz := set_OK h.1.1 hf
  generalize v.toNatClampNeg = k at hk hw hz ⊢
  obtain ⟨⟨-, hZ, hl⟩, h2, h3, ⟨h4, h5, h6⟩, h7, h8, h9, h10⟩ := h
  refine ⟨⟨hz, set_Z hk hZ, upd_l hl (by omega) (by omega) (by omega) (by omega) (by omega)⟩, upd_g h2, ag_upd h3, ⟨?_, ?_, ?_⟩, ?_, h8, ?_, fun i j hi hj => ?_⟩
  · rw [pk_un (by omega)]; exact h4
  · rw [pk_un (by omega)]; exact h5
  · rw [pk_un (by omega)]; exact h6
  · by_cases e : k = 1
    · subst e
      rw [pk_us]
      exact inRg_sub hw (by decide) (by decide)
    · rw [pk_un (fun q => e q.symm)]; exact h7
  · rw [pk_un (by omega)]; exact h9
  · rw [pk_un (by omega)]; exact h10 i j hi hj
theorem freshL_in : ∀ (n i : Nat) (z : Nat → Int32) (k : Nat), freshL n i z k = if i ≤ k ∧ k < i + n then frV k else z k := by
  intro n
  induction n with
  | zero => intro i z k; exact (if_neg (by omega)).symm
  | succ n ih =>
    intro i z k
    show freshL n (i + 1) (upd z i (frV i)) k = _
    rw [ih]
    by_cases h : i + 1 ≤ k ∧ k < i + 1 + n
    · rw [if_pos h, if_pos (by omega)]
    · rw [if_neg h]
      by_cases h2 : k = i
      · subst h2; rw [pk_us, if_pos (by omega)]
      · rw [pk_un h2, if_neg (by omega)]
theorem freshZ_lt {v : Int32} {z : Nat → Int32} {k : Nat} (h : k < 15) : freshZ v z k = firstT k := by
  unfold freshZ
  rw [pk_un (by omega), pk_un (by omega), freshL_in, if_pos (by omega)]
  unfold frV
  rw [if_neg (show ¬ (15 : Int32) ≤ nI k from nI_ge (a := k) (b := 15) (by omega) (by omega))]
theorem freshZ_ge {v : Int32} {z : Nat → Int32} {k : Nat} (h : 17 ≤ k) (h2 : k < 159) : freshZ v z k = 0 := by
  unfold freshZ
  rw [pk_un (by omega), pk_un (by omega), freshL_in, if_pos (by omega)]
  unfold frV
  rw [if_pos (show (15 : Int32) ≤ nI k from nI_le (a := 15) (b := k) (by omega) (by omega))]
theorem freshZ_15 {v : Int32} {z : Nat → Int32} : freshZ v z 15 = v := by
  unfold freshZ
  rw [pk_un (by omega), pk_us]
theorem freshZ_16 {v : Int32} {z : Nat → Int32} : freshZ v z 16 = v := by
  unfold freshZ
  rw [pk_us]
theorem wP_fresh {E : EE} {B : Nat → Nat} {g z : Nat → Int32} {v lo up pk : Int32} : wP E B g (rsZ v) lo up pk = wP E B g (freshZ v z) lo up pk := by
  refine wP_congr (fun i hi => ?_) (fun i h1 h2 => ?_)
  · have := plI_lt hi
    unfold rsZ
    by_cases e : i = 16
    · subst e; rw [pk_us, freshZ_16]
    · rw [pk_un e]
      by_cases e5 : i = 15
      · subst e5; rw [pk_us, freshZ_15]
      · rw [pk_un e5, freshZ_ge (by omega) (by omega)]
  · unfold rsZ
    rw [pk_un (by omega), pk_un (by omega), freshZ_ge (by omega) (by omega)]
theorem sumJ_0 {j : Nat} {z : Nat → Int32} : ∀ (n i : Nat), (∀ p, i ≤ p → p < i + n → z (35 + 7 * p + j) = 0) → sumJ j z n i 0 = 0 := by
  intro n
  induction n with
  | zero => intro i _; rfl
  | succ n ih =>
    intro i h
    show sumJ j z n (i + 1) (0 + z (35 + 7 * i + j)) = 0
    rw [h i (by omega) (by omega), show (0 : Int32) + 0 = 0 from rfl]
    exact ih _ (fun p h1 h2 => h p (by omega) (by omega))
theorem RLs_fresh {g f z : Nat → Int32} {v : Int32} (hv : ¬ inRg v 1 4 = 0) (hg : ∀ k, k < 15 → g k = firstT k) : RLs g ((freshZ v z, 0, 0, 0), (0, 0, f)) (freshZ v z) := by
  obtain ⟨e1, e2, e3⟩ := inRg_ix1 (n := 4) (by decide) hv
  have en : nOf (freshZ v z) = v.toNatClampNeg := by unfold nOf; rw [freshZ_15]
  have em : mOf (freshZ v z) = v.toNatClampNeg := by unfold mOf; rw [freshZ_16]
  refine ⟨⟨⟨?_, ?_, ?_, ?_, ?_, ?_, ?_, ?_, ?_⟩, ?_, ?_, ?_⟩, ?_, ag_rfl, ⟨?_, ?_, ?_⟩, ⟨?_, ?_⟩, ?_, ?_, ?_⟩
  · rw [en, freshZ_15]; exact e1.symm
  · rw [en]; exact e3
  · rw [en]; exact e2
  · rw [em, freshZ_16]; exact e1.symm
  · rw [em]; exact e3
  · rw [em, en]; exact Nat.le_refl _
  · rw [freshZ_lt (by omega)]; decide
  · rw [freshZ_lt (by omega)]; decide
  · rw [freshZ_lt (by omega)]; decide
  · intro i h1 h2
    exact freshZ_ge (by omega) (by omega)
  · rw [freshZ_ge (by omega) (by omega)]
    unfold limS
    rw [en]
    exact (sumJ_0 _ _ (fun p _ hp => freshZ_ge (by omega) (by omega))).symm
  · rw [freshZ_ge (by omega) (by omega)]
    unfold skpS
    rw [en]
    exact (sumJ_0 _ _ (fun p _ hp => freshZ_ge (by omega) (by omega))).symm
  · intro k hk
    rw [freshZ_lt hk]; exact hg k hk
  · rw [freshZ_ge (by omega) (by omega)]; show (0 : Int32) = 0 - 0; decide
  · rw [freshZ_ge (by omega) (by omega)]
  · rw [freshZ_ge (by omega) (by omega)]; decide
  · rw [freshZ_lt (by omega)]; decide
  · rw [freshZ_lt (by omega)]; decide
  · exact rOK_of (S := 0) (W := 0) (by omega) (by omega)
  · exact freshZ_ge (by omega) (by omega)
  · intro i j hi hj
    exact absurd hi (by show ¬ i < (0 : Int32).toNatClampNeg; rw [show (0 : Int32).toNatClampNeg = 0 by decide]; omega)
/-- a number, as the class says it -/
theorem nuX_eq {g z : Nat → Int32} {lo up pk sz nw : Int32} {pf : Nat → Int32} {k : Nat} (h : RLs g ((z, lo, up, pk), (sz, nw, pf)) z) (hk : k < 15) : nuX k sz z lo up pk = z (placeT k) := by
  obtain ⟨⟨-, -, hl⟩, -, -, ⟨h4, h5, -⟩, -, -, h9, -⟩ := h
  dsimp only at h4 h5 h9
  unfold nuX
  obtain rfl | rfl | rfl | rfl | rfl | rfl | rfl | rfl | rfl | rfl | rfl | rfl | rfl | rfl | rfl : k = 0 ∨ k = 1 ∨ k = 2 ∨ k = 3 ∨ k = 4 ∨ k = 5 ∨ k = 6 ∨ k = 7 ∨ k = 8 ∨ k = 9 ∨ k = 10 ∨ k = 11 ∨ k = 12 ∨ k = 13 ∨ k = 14 := by omega
  · rw [if_neg (by decide)]; rfl
  · rw [if_neg (by decide)]; rfl
  · rw [if_neg (by decide)]; rfl
  · rw [if_neg (by decide)]; rfl
  · rw [if_neg (by decide)]; rfl
  · rw [if_neg (by decide)]; rfl
  · rw [if_neg (by decide)]; rfl
  · rw [if_neg (by decide)]; rfl
  · rw [if_neg (by decide)]; exact h4.symm
  · rw [if_neg (by decide)]; exact hl.1.symm
  · rw [if_neg (by decide)]; exact hl.2.symm
  · rw [if_neg (by decide)]; exact h5
  · rw [if_neg (by decide)]; rfl
  · rw [if_neg (by decide)]; rfl
  · rw [if_pos (by decide)]; exact h9.symm
theorem dgL_congr {f y : Nat → Int64} : ∀ (n i : Nat) (x : Int64), (∀ k, i ≤ k → k < i + n → f k = y k) → dgL f n i x = dgL y n i x := by
  intro n
  induction n with
  | zero => intro i x _; rfl
  | succ n ih =>
    intro i x h
    show dgL f n (i + 1) (31 * x + f i) = dgL y n (i + 1) (31 * x + y i)
    rw [h i (by omega) (by omega)]
    exact ih _ _ (fun k h1 h2 => h k (by omega) (by omega))
theorem dgL_shift {f y : Nat → Int64} {b : Nat} : ∀ (n i : Nat) (x : Int64), (∀ k, i ≤ k → k < i + n → f k = y (b + k)) → dgL f n i x = dgL y n (b + i) x := by
  intro n
  induction n with
  | zero => intro i x _; rfl
  | succ n ih =>
    intro i x h
    show dgL f n (i + 1) (31 * x + f i) = dgL y n (b + i + 1) (31 * x + y (b + i))
    rw [h i (by omega) (by omega), Nat.add_assoc]
    exact ih _ _ (fun k h1 h2 => h k (by omega) (by omega))
theorem dgL_app {f : Nat → Int64} : ∀ (n k i : Nat) (x : Int64), dgL f (n + k) i x = dgL f k (i + n) (dgL f n i x) := by
  intro n
  induction n with
  | zero => intro k i x; rw [Nat.zero_add]; rfl
  | succ n ih =>
    intro k i x
    rw [show n + 1 + k = (n + k) + 1 by omega]
    show dgL f (n + k) (i + 1) (31 * x + f i) = dgL f k (i + (n + 1)) (dgL f n (i + 1) (31 * x + f i))
    rw [ih, show i + 1 + n = i + (n + 1) by omega]
theorem dgN_flat {F : Nat → Nat → Int64} {f : Nat → Int64} {M : Nat} : ∀ (n i : Nat) (x : Int64), (∀ k j, i ≤ k → k < i + n → j < M → F k j = f (M * k + j)) → dgN F M n i x = dgL f (M * n) (M * i) x := by
  intro n
  induction n with
  | zero => intro i x _; rfl
  | succ n ih =>
    intro i x h
    show dgN F M n (i + 1) (dgL (F i) M 0 x) = _
    rw [ih _ _ (fun k j h1 h2 h3 => h k j (by omega) (by omega) h3), dgL_shift (y := f) (b := M * i) M 0 x (fun k _ h2 => h i k (by omega) (by omega) (by omega)), show M * (n + 1) = M + M * n by rw [Nat.mul_add, Nat.mul_one, Nat.add_comm], dgL_app, show M * (i + 1) = M * i + M by rw [Nat.mul_add, Nat.mul_one]]
    rfl
theorem dg_eq {g z : Nat → Int32} {lo up pk sz nw ln : Int32} {pf cd : Nat → Int32} {L : Nat} {x : Int32} (h : RLs g ((z, lo, up, pk), (sz, nw, pf)) z) : dgX sz nw pf z lo up pk ln cd L x = dgZ z cd sz.toNatClampNeg L x (unlike z) ln := by
  have h10 := h.2.2.2.2.2.2.2
  have hn := h.1.1.2.2.1
  unfold dgX dgZ
  rw [dgL_congr (f := fun i => (nuX i sz z lo up pk).toInt64) (y := fun i => (z (placeT i)).toInt64) 15 0 2017 (fun k _ h2 => by rw [nuX_eq h (by omega)])]
  rw [dgN_flat (F := fun i j => (z (35 + 7 * i + j)).toInt64) (f := fun i => (z (35 + i)).toInt64) (M := 7) (nOf z) 0 _ (fun k j _ _ _ => by rw [Nat.add_assoc]), Nat.mul_zero]
  rw [dgN_flat (F := fun i j => (pf ((nw.toNatClampNeg + 16 - i) % 16 * 6 + j)).toInt64) (f := fun i => (z (63 + i)).toInt64) (M := 6) sz.toNatClampNeg 0 _ (fun k j _ h2 h3 => by
    have := h10 k j (by dsimp only; omega) h3
    dsimp only at this ⊢
    rw [this, Nat.add_assoc]), Nat.mul_zero]
