/-! Cycles with their records: the class's ring beside the reference's moving row. -/
theorem recL_in : ∀ (n : Nat) (z : Nat → Int32) (k : Nat), recL n z k = if 69 ≤ k ∧ k < 69 + n then z (k - 6) else z k := by
  intro n
  induction n with
  | zero => intro z k; rw [if_neg (by omega)]; rfl
  | succ n ih =>
    intro z k
    show recL n (upd z (68 + n + 1) (z (62 + n + 1))) k = _
    rw [ih]
    by_cases h : 69 ≤ k ∧ k < 69 + n
    · rw [if_pos h, if_pos (by omega), pk_un (by omega)]
    · rw [if_neg h]
      by_cases h2 : k = 68 + n + 1
      · subst h2
        rw [pk_us, if_pos (by omega), show 68 + n + 1 - 6 = 62 + n + 1 by omega]
      · rw [pk_un h2, if_neg (by omega)]
theorem recordZ_new {v : Int32} {z : Nat → Int32} : recordZ v z 63 = z 17 ∧ recordZ v z 64 = z 22 ∧ recordZ v z 65 = z 23 ∧ recordZ v z 66 = z 16 ∧ recordZ v z 67 = z 20 ∧ recordZ v z 68 = v ∧ recordZ v z 31 = z 31 + (if (16 : Int32) ≤ z 31 then 0 else 1) ∧ ∀ k, 69 ≤ k → k < 159 → recordZ v z k = z (k - 6) := by
  unfold recordZ
  have e : ∀ j, j < 63 → recL 90 z j = z j := fun j hj => recL_lt hj 90 z
  rw [e 17 (by omega), e 22 (by omega), e 23 (by omega), e 16 (by omega), e 20 (by omega), e 31 (by omega)]
  refine ⟨?_, ?_, ?_, ?_, ?_, ?_, ?_, fun k h1 h2 => ?_⟩
  · rw [pk_un (by omega), pk_un (by omega), pk_un (by omega), pk_un (by omega), pk_un (by omega), pk_un (by omega), pk_us]
  · rw [pk_un (by omega), pk_un (by omega), pk_un (by omega), pk_un (by omega), pk_un (by omega), pk_us]
  · rw [pk_un (by omega), pk_un (by omega), pk_un (by omega), pk_un (by omega), pk_us]
  · rw [pk_un (by omega), pk_un (by omega), pk_un (by omega), pk_us]
  · rw [pk_un (by omega), pk_un (by omega), pk_us]
  · rw [pk_un (by omega), pk_us]
  · rw [pk_us]
  · rw [pk_un (by omega), pk_un (by omega), pk_un (by omega), pk_un (by omega), pk_un (by omega), pk_un (by omega), pk_un (by omega), recL_in, if_pos (by omega)]
theorem choose_lt {z : Nat → Int32} {k : Nat} (h : k < 35) (h1 : k ≠ 16) (h2 : k ≠ 28) (h3 : k ≠ 29) (h4 : k ≠ 30) : choose z k = z k := by
  have c : ∀ (v : Int32) (y : Nat → Int32), changePh v y k = y k := fun v y => by unfold changePh; rw [pk_un h2, pk_un h4, pk_un h3, pk_un h1]
  unfold choose
  split
  · rw [c, pk_un h3]
  · split
    · rw [pk_un (by omega), c, pk_un h4, pk_un h3]
    · rw [pk_un h4, pk_un h3]
theorem cy_lt {z : Nat → Int32} {k : Nat} (h : k < 35) (h1 : k ≠ 16) (h2 : k ≠ 28) (h3 : k ≠ 29) (h4 : k ≠ 30) (h5 : k ≠ 18) (h6 : k ≠ 20) (h7 : k ≠ 19) (h8 : k ≠ 21) : cy3 (aim (cy1 z)) k = z k := by
  have e3 : ∀ y : Nat → Int32, cy3 y k = y k := by
    intro y
    unfold cy3
    split
    · rfl
    · rw [choose_lt h h1 h2 h3 h4, regulate_lt h7 h8]
  have e1 : cy1 z k = z k := by
    unfold cy1
    repeat' split
    · rfl
    · rfl
    · exact stopTo_lt h h6
  rw [e3, aim_lt h5 h6, e1]
theorem cy_ge {z : Nat → Int32} {k : Nat} (hz : zOK z) (h : 35 + 7 * nOf z ≤ k) : cy3 (aim (cy1 z)) k = z k := by
  have h1 := cy1_OK hz
  have h2 := aim_OK h1
  rw [cy3_ge h2 (by rw [aim_n, cy1_n]; exact h), aim_lt (by omega) (by omega), cy1_ge h]
/-- what a cycle lays into the records -/
theorem cyc_rec {z G : Nat → Int32} (hz : zOK z) : (cycle z G).1 63 = (cycle z G).1 17 ∧ (cycle z G).1 64 = (cycle z G).1 22 ∧ (cycle z G).1 65 = (cycle z G).1 23 ∧ (cycle z G).1 66 = (cycle z G).1 16 ∧ (cycle z G).1 67 = (cycle z G).1 20 ∧ (cycle z G).1 68 = (cycle z G).1 25 - z 25 ∧
    (cycle z G).1 31 = z 31 + (if (16 : Int32) ≤ z 31 then 0 else 1) ∧ (∀ k, 69 ≤ k → k < 159 → (cycle z G).1 k = z (k - 6)) ∧ (∀ i, 35 + 7 * nOf z ≤ i → i < 63 → (cycle z G).1 i = z i) := by
  have hz3 := cy3_OK (aim_OK (cy1_OK hz))
  have hn4 := hz.2.2.1
  have hk : ∀ j, 35 + 7 * nOf z ≤ j → (cycL (aim (cy1 z) 22) 20 0 (cy3 (aim (cy1 z))) G 0 1000000 (-1)).1 j = z j := fun j hj => by
    rw [cycL_ge _ _ _ _ _ _ _ hz3 (by rw [cy3_n, aim_n, cy1_n]; exact hj), cy_ge hz hj]
  have h31 : (cycL (aim (cy1 z) 22) 20 0 (cy3 (aim (cy1 z))) G 0 1000000 (-1)).1 31 = z 31 := by
    rw [cycL_keep (by omega) (by omega) (by omega) (by omega) (by omega), cy_lt (by omega) (by omega) (by omega) (by omega) (by omega) (by omega) (by omega) (by omega) (by omega)]
  have h25 : cy3 (aim (cy1 z)) 25 = z 25 := cy_lt (by omega) (by omega) (by omega) (by omega) (by omega) (by omega) (by omega) (by omega) (by omega)
  unfold cycle cyE
  dsimp only
  generalize cycL (aim (cy1 z) 22) 20 0 (cy3 (aim (cy1 z))) G 0 1000000 (-1) = u at hk h31 ⊢
  rw [h25]
  obtain ⟨y, ey⟩ : ∃ y : Nat → Int32, y = upd (upd (upd (upd u.1 22 (u.2.2.1 / 20)) 23 (u.2.2.2.2 - u.2.2.2.1)) 27 (if u.2.1 7 ≤ u.1 27 then u.1 27 else u.2.1 7)) 24 (u.1 24 + 1) := ⟨_, rfl⟩
  have ho : ∀ j, j ≠ 22 → j ≠ 23 → j ≠ 27 → j ≠ 24 → y j = u.1 j := fun j a b c d => by rw [ey, pk_un d, pk_un c, pk_un b, pk_un a]
  rw [← ey]
  obtain ⟨r1, r2, r3, r4, r5, r6, r7, r8⟩ := recordZ_new (v := u.1 25 - z 25) (z := y)
  have hl : ∀ j, j < 63 → j ≠ 31 → recordZ (u.1 25 - z 25) y j = y j := fun j a b => recordZ_lt a b
  refine ⟨?_, ?_, ?_, ?_, ?_, ?_, ?_, fun k a b => ?_, fun i a b => ?_⟩
  · rw [r1, hl 17 (by omega) (by omega)]
  · rw [r2, hl 22 (by omega) (by omega)]
  · rw [r3, hl 23 (by omega) (by omega)]
  · rw [r4, hl 16 (by omega) (by omega)]
  · rw [r5, hl 20 (by omega) (by omega)]
  · rw [r6, hl 25 (by omega) (by omega), ho 25 (by omega) (by omega) (by omega) (by omega)]
  · rw [r7, ho 31 (by omega) (by omega) (by omega) (by omega), h31]
  · rw [r8 k a b, ho _ (by omega) (by omega) (by omega) (by omega), hk _ (by omega)]
  · rw [hl i b (by omega), ho i (by omega) (by omega) (by omega) (by omega), hk i a]
theorem ag_limS {y z : Nat → Int32} (hz : zOK z) (h : ag y z) : limS y = limS z := by
  have hn : nOf y = nOf z := nOf_of (h 15 (by omega))
  have h4 := hz.2.2.1
  unfold limS
  rw [hn]
  exact sumJ_congr _ _ _ (fun p _ hp => h _ (by omega))
theorem ag_skpS {y z : Nat → Int32} (hz : zOK z) (h : ag y z) : skpS y = skpS z := by
  have hn : nOf y = nOf z := nOf_of (h 15 (by omega))
  have h4 := hz.2.2.1
  unfold skpS
  rw [hn]
  exact sumJ_congr _ _ _ (fun p _ hp => h _ (by omega))
def recR (S W : Nat) (f z : Nat → Int32) : Prop := ∀ i j, i < S → j < 6 → f ((W + 16 - i) % 16 * 6 + j) = z (63 + 6 * i + j)
/-- the class's numbers beside the reference's -/
def RLs (g : Nat → Int32) (t : QS × HS) (z : Nat → Int32) : Prop :=
  (zOK z ∧ zZ z ∧ lOK z) ∧ (∀ k, k < 15 → g k = z k) ∧ ag t.1.1 z ∧ (z 23 = t.1.2.2.1 - t.1.2.1 ∧ t.1.2.2.2 = z 27 ∧ 0 ≤ z 27) ∧ (¬ z 1 < 0 ∧ ¬ 40000 < z 1) ∧ rOK t.2.1 t.2.2.1 ∧ z 31 = t.2.1 ∧ recR t.2.1.toNatClampNeg t.2.2.1.toNatClampNeg t.2.2.2 z
theorem kpF_new {W : Nat} {f z : Nat → Int32} {r v : Int32} {j : Nat} (hj : j < 6) : kpF W f z r v ((W + 1) % 16 * 6 + j) = [z 17, z 22, r, z 16, z 20, v].getD j 0 := by
  unfold kpF
  generalize (W + 1) % 16 * 6 = b
  obtain rfl | rfl | rfl | rfl | rfl | rfl : j = 0 ∨ j = 1 ∨ j = 2 ∨ j = 3 ∨ j = 4 ∨ j = 5 := by omega
  · rw [pk_un (by omega), pk_un (by omega), pk_un (by omega), pk_un (by omega), pk_un (by omega)]; exact pk_us
  · rw [pk_un (by omega), pk_un (by omega), pk_un (by omega), pk_un (by omega)]; exact pk_us
  · rw [pk_un (by omega), pk_un (by omega), pk_un (by omega)]; exact pk_us
  · rw [pk_un (by omega), pk_un (by omega)]; exact pk_us
  · rw [pk_un (by omega)]; exact pk_us
  · exact pk_us
theorem kpF_old {W : Nat} {f z : Nat → Int32} {r v : Int32} {a j : Nat} (hj : j < 6) (ha : a ≠ (W + 1) % 16) : kpF W f z r v (a * 6 + j) = f (a * 6 + j) := by
  unfold kpF
  generalize (W + 1) % 16 = b at ha
  rw [pk_un (by omega), pk_un (by omega), pk_un (by omega), pk_un (by omega), pk_un (by omega), pk_un (by omega)]
theorem RL_cyc {g : Nat → Int32} {t : QS × HS} {z G : Nat → Int32} (h : RLs g t z) (hq : t.1.2.2.2 = mx (z 27) (G 7)) : RLs g (pcs1 t) (cycle z G).1 ∧ (pcs1 t).1.2.2.2 = mx ((cycle z G).1 27) ((cycle z G).2 7) := by
  obtain ⟨⟨hz, hZ, hl⟩, hg, ha, ⟨h23, h27, h0⟩, h1, hr, h31, hR⟩ := h
  obtain ⟨⟨a1, a2⟩, a3, -⟩ := RC_step (κ := z 27) hz (show RC (z 27) t.1 z G from ⟨ha, hq⟩)
  have hz' := cycle_OK (G := G) hz
  have hl' := cycle_l (G := G) hz hl
  have e15 : nOf (cycle z G).1 = nOf z := nOf_of (by
    have := (pcF_cycK (κ := -2147483648) (z := z) (G := G) (l := 0) (u := 0) (q := G 7) (mx_min _).symm).1 15 (by omega)
    rw [← this]
    unfold pcF pcU
    rw [pk_un (by omega), pk_un (by omega)]
    have key : ∀ (n i : Nat) (z : Nat → Int32) (l u q x : Int32), (pcL n i z l u q x).1 15 = z 15 := by
      intro n
      induction n with
      | zero => intro i z l u q x; rfl
      | succ n ih =>
        intro i z l u q x
        rw [pcL, ih]
        unfold pcD
        rw [slotD_lt (by omega) (by omega)]
        unfold mvV
        rw [pk_un (by omega), mvF_lt (by omega) (by omega), pcA_lt (by omega) (by omega)]
    rw [key, cy_lt (by omega) (by omega) (by omega) (by omega) (by omega) (by omega) (by omega) (by omega) (by omega)])
  obtain ⟨r1, r2, r3, r4, r5, r6, r7, r8, r9⟩ := cyc_rec (G := G) hz
  have hlim : limS (pc1 t.1).1 - limS t.1.1 = (cycle z G).1 68 := by
    rw [ag_limS hz' a1, ag_limS hz ha, ← hl'.1, ← hl.1, r6]
  have e27 := cyc_27 (z := z) (G := G)
  refine ⟨⟨⟨hz', zZ_of hZ e15 r9, hl'⟩, fun k hk => (hg k hk).trans (cyc_set hk).symm, a1, ⟨a3, a2.trans e27.symm, ?_⟩, ?_, rOK_step, ?_, ?_⟩, ?_⟩
  · rw [e27, Int32.le_iff_toInt_le, mx_toInt]
    rw [Int32.le_iff_toInt_le] at h0
    omega
  · rw [cyc_set (by omega)]; exact h1
  · obtain ⟨-, -, hs, hs16⟩ := hr
    show (cycle z G).1 31 = nI (min (t.2.1.toNatClampNeg + 1) 16)
    rw [r7, h31]
    rw [hs]
    generalize t.2.1.toNatClampNeg = S at hs16 ⊢
    rw [nI_clamp (by omega)]
    by_cases e : S = 16
    · subst e; decide
    · rw [if_neg (show ¬ (16 : Int32) ≤ nI S from nI_ge (a := S) (b := 16) (by omega) (by omega)), nI_1, show min (S + 1) 16 = S + 1 by omega]
  · obtain ⟨hw, hw16, hs, hs16⟩ := hr
    show recR (nI (min (t.2.1.toNatClampNeg + 1) 16)).toNatClampNeg (nI ((t.2.2.1.toNatClampNeg + 1) % 16)).toNatClampNeg (kpF t.2.2.1.toNatClampNeg t.2.2.2 (pc1 t.1).1 ((pc1 t.1).2.2.1 - (pc1 t.1).2.1) (limS (pc1 t.1).1 - limS t.1.1)) (cycle z G).1
    rw [nI_clamp (by omega), nI_clamp (by omega), hlim, ← a3]
    generalize t.2.1.toNatClampNeg = S at hs16 hR ⊢
    generalize t.2.2.1.toNatClampNeg = W0 at hw16 hR ⊢
    intro i j hi hj
    by_cases hi0 : i = 0
    · subst hi0
      rw [show ((W0 + 1) % 16 + 16 - 0) % 16 = (W0 + 1) % 16 by omega, kpF_new hj]
      obtain rfl | rfl | rfl | rfl | rfl | rfl : j = 0 ∨ j = 1 ∨ j = 2 ∨ j = 3 ∨ j = 4 ∨ j = 5 := by omega
      · show (pc1 t.1).1 17 = (cycle z G).1 63
        rw [r1, a1 17 (by omega)]
      · show (pc1 t.1).1 22 = (cycle z G).1 64
        rw [r2, a1 22 (by omega)]
      · show (cycle z G).1 23 = (cycle z G).1 65
        rw [r3]
      · show (pc1 t.1).1 16 = (cycle z G).1 66
        rw [r4, a1 16 (by omega)]
      · show (pc1 t.1).1 20 = (cycle z G).1 67
        rw [r5, a1 20 (by omega)]
      · rfl
    · rw [show ((W0 + 1) % 16 + 16 - i) % 16 = (W0 + 16 - (i - 1)) % 16 by omega, kpF_old hj (by omega), r8 _ (by omega) (by omega), show 63 + 6 * i + j - 6 = 63 + 6 * (i - 1) + j by omega]
      exact hR (i - 1) j (by omega) hj
  · show (pc1 t.1).2.2.2 = _
    rw [a2, e27, mx_assoc]
    apply Int32.toInt_inj.mp
    rw [mx_toInt, mx_toInt, mx_toInt]
    omega
theorem RL_run {g : Nat → Int32} : ∀ (n : Nat) (t : QS × HS) (z G : Nat → Int32), RLs g t z → t.1.2.2.2 = mx (z 27) (G 7) → RLs g (pcsL n t) (runL n z G).1 := by
  intro n
  induction n with
  | zero => intro t z G h _; exact h
  | succ n ih =>
    intro t z G h hq
    obtain ⟨a, b⟩ := RL_cyc h hq
    rw [pcsL, runL]
    exact ih _ _ _ a b
theorem RL_run0 {g : Nat → Int32} {n : Nat} {t : QS × HS} {z G : Nat → Int32} (h : RLs g t z) : RLs g (pcsL n t) (runL n z (layE G)).1 := by
  refine RL_run n t z (layE G) h ?_
  rw [layE_7, h.2.2.2.1.2.1]
  exact (mx_le h.2.2.2.1.2.2).symm
