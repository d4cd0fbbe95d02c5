/-! A cycle of the class looks neither at the places 23, 27, 31 nor at those from 63 on. -/
def ov (y z : Nat → Int32) : Nat → Int32 := fun j => if j < 63 ∧ j ≠ 23 ∧ j ≠ 27 ∧ j ≠ 31 then z j else y j
theorem ov_rd {y z : Nat → Int32} {j : Nat} (h : j < 63 ∧ j ≠ 23 ∧ j ≠ 27 ∧ j ≠ 31) : ov y z j = z j := if_pos h
theorem ov_up {y z : Nat → Int32} {k : Nat} {v : Int32} (h : k < 63 ∧ k ≠ 23 ∧ k ≠ 27 ∧ k ≠ 31) : upd (ov y z) k v = ov y (upd z k v) := by
  funext j
  by_cases e : j = k
  · subst e; rw [pk_us, ov_rd h, pk_us]
  · rw [pk_un e]
    unfold ov
    by_cases h2 : j < 63 ∧ j ≠ 23 ∧ j ≠ 27 ∧ j ≠ 31
    · rw [if_pos h2, if_pos h2, pk_un e]
    · rw [if_neg h2, if_neg h2]
theorem ov_n {y z : Nat → Int32} : nOf (ov y z) = nOf z := by unfold nOf; rw [ov_rd (by omega)]
theorem ov_m {y z : Nat → Int32} : mOf (ov y z) = mOf z := by unfold mOf; rw [ov_rd (by omega)]
theorem ov_r {y z : Nat → Int32} : runsI (ov y z) = runsI z := by unfold runsI; rw [ov_rd (by omega)]
theorem ov_stopL {y : Nat → Int32} : ∀ (n i : Nat) (z : Nat → Int32), i + n ≤ 4 → stopL n i (ov y z) = ov y (stopL n i z) := by
  intro n
  induction n with
  | zero => intro i z _; rfl
  | succ n ih =>
    intro i z h
    show stopL n (i + 1) (upd (ov y z) (35 + 7 * i + 1) 0) = ov y (stopL n (i + 1) (upd z (35 + 7 * i + 1) 0))
    rw [ov_up (by omega)]
    exact ih _ _ (by omega)
theorem ov_stopTo {y z : Nat → Int32} {v : Int32} (h : nOf z ≤ 4) : stopTo v (ov y z) = ov y (stopTo v z) := by
  unfold stopTo
  rw [ov_n, ov_up (by omega), ov_stopL _ _ _ (by omega)]
theorem ov_aim {y z : Nat → Int32} : aim (ov y z) = ov y (aim z) := by
  unfold aim
  simp (disch := omega) only [ov_rd, ov_up]
  repeat' split
  all_goals rfl
theorem ov_regI {y z : Nat → Int32} : regI (ov y z) = regI z := by
  unfold regI
  simp (disch := omega) only [ov_rd]
theorem ov_regulate {y z : Nat → Int32} : regulate (ov y z) = ov y (regulate z) := by
  unfold regulate
  simp (disch := omega) only [ov_rd, ov_up, ov_regI]
theorem ov_changePh {y z : Nat → Int32} {v : Int32} : changePh v (ov y z) = ov y (changePh v z) := by
  unfold changePh
  simp (disch := omega) only [ov_rd, ov_up]
theorem ov_adI {y z : Nat → Int32} : adI (ov y z) = adI z := by
  unfold adI
  simp (disch := omega) only [ov_rd]
theorem ov_shI {y z : Nat → Int32} : shI (ov y z) = shI z := by
  unfold shI
  simp (disch := omega) only [ov_rd]
theorem ov_choose {y z : Nat → Int32} (h : mOf z ≤ 4) : choose (ov y z) = ov y (choose z) := by
  unfold choose
  simp (disch := omega) only [ov_adI, ov_shI, ov_m, ov_rd, ov_up, ov_changePh]
  repeat' split
  all_goals rfl
theorem ov_cy1 {y z : Nat → Int32} (h : nOf z ≤ 4) : cy1 (ov y z) = ov y (cy1 z) := by
  unfold cy1
  simp (disch := omega) only [ov_r, ov_rd, ov_stopTo]
  repeat' split
  all_goals rfl
theorem ov_cy3 {y z : Nat → Int32} (h : mOf z ≤ 4) : cy3 (ov y z) = ov y (cy3 z) := by
  have h2 : mOf (regulate z) ≤ 4 := by
    unfold mOf at h ⊢
    rw [regulate_lt (by omega) (by omega)]
    exact h
  unfold cy3
  rw [ov_r, ov_regulate, ov_choose h2]
  split
  all_goals rfl
theorem ov_sumL {y z : Nat → Int32} : ∀ (n i : Nat) (x : Int32), i + n ≤ 4 → sumL (ov y z) n i x = sumL z n i x := by
  intro n
  induction n with
  | zero => intro i x _; rfl
  | succ n ih =>
    intro i x h
    show sumL (ov y z) n (i + 1) (x + ov y z (35 + 7 * i + 0)) = sumL z n (i + 1) (x + z (35 + 7 * i + 0))
    rw [ov_rd (by omega)]
    exact ih _ _ (by omega)
theorem ov_sumC {y z : Nat → Int32} {n : Nat} (h : n ≤ 4) : sumC n (ov y z) = sumC n z := ov_sumL _ _ _ (by omega)
theorem ov_bpSkip {y z : Nat → Int32} {k : Nat} (h : k < 4) : bpSkip k (ov y z) = ov y (bpSkip k z) := by
  unfold bpSkip
  simp (disch := omega) only [ov_rd, ov_up]
theorem ov_bpFar {y z : Nat → Int32} {k : Nat} (h : k < 4) (hm : mOf z ≤ 4) : bpFar k (ov y z) = bpFar k z := by
  unfold bpFar
  simp (disch := omega) only [ov_rd, ov_m, ov_sumC]
theorem ov_bpB {y z : Nat → Int32} {k : Nat} (h : k < 4) (hm : mOf z ≤ 4) : bpB k (ov y z) = bpB k z := by
  unfold bpB
  simp (disch := omega) only [ov_rd, ov_bpFar]
theorem ov_bpRest {y z : Nat → Int32} {k : Nat} (h : k < 4) (hm : mOf z ≤ 4) : bpRest k (ov y z) = bpRest k z := by
  unfold bpRest
  simp (disch := omega) only [ov_rd, ov_bpB]
theorem ov_bpGo {y z : Nat → Int32} {k : Nat} (h : k < 4) (hm : mOf z ≤ 4) : bpGo k (ov y z) = ov y (bpGo k z) := by
  unfold bpGo
  simp (disch := omega) only [ov_rd, ov_up, ov_bpRest]
theorem ov_beginP {y z : Nat → Int32} {k : Nat} {a : Int32} (h : k < 4) (hm : mOf z ≤ 4) : beginP k a (ov y z) = ov y (beginP k a z) := by
  unfold beginP
  simp (disch := omega) only [ov_rd, ov_bpGo, ov_bpSkip]
  repeat' split
  all_goals rfl
theorem ov_sbp {y z : Nat → Int32} {k : Nat} {v a : Int32} (h : k < 4) (hm : mOf z ≤ 4) : sbp v a k (ov y z) = ov y (sbp v a k z) := by
  unfold sbp
  simp (disch := omega) only [ov_rd, ov_r, ov_beginP]
  repeat' split
  all_goals rfl
theorem zOK_m4 {z : Nat → Int32} (h : zOK z) : mOf z ≤ 4 := by
  have h1 := h.2.2.1
  have h2 := h.2.2.2.2.2.1
  omega
theorem ov_slotA {y : Nat → Int32} {v a : Int32} : ∀ (n i : Nat) (z : Nat → Int32), zOK z → i + n ≤ 4 → slotA v a n i (ov y z) = ov y (slotA v a n i z) := by
  intro n
  induction n with
  | zero => intro i z _ _; rfl
  | succ n ih =>
    intro i z hz h
    show slotA v a n (i + 1) (sbp v a i (ov y z)) = ov y (slotA v a n (i + 1) (sbp v a i z))
    rw [ov_sbp (by omega) (zOK_m4 hz)]
    exact ih _ _ (sbp_OK hz) (by omega)
theorem ov_st1 {y z : Nat → Int32} {k : Nat} (h : k < 4) : st1 k (ov y z) = ov y (st1 k z) := by
  unfold st1
  simp (disch := omega) only [ov_rd, ov_up]
  repeat' split
  all_goals rfl
theorem ov_st2 {y z : Nat → Int32} {k : Nat} (h : k < 4) : st2 k (ov y z) = ov y (st2 k z) := by
  unfold st2
  simp (disch := omega) only [ov_rd, ov_up]
  repeat' split
  all_goals rfl
theorem ov_st3 {y z : Nat → Int32} {k : Nat} (h : k < 4) : st3 k (ov y z) = ov y (st3 k z) := by
  unfold st3
  simp (disch := omega) only [ov_rd, ov_up]
theorem ov_step {y z : Nat → Int32} {k : Nat} (h : k < 4) : step k (ov y z) = ov y (step k z) := by
  unfold step
  rw [ov_st1 h, ov_st2 h, ov_st3 h]
theorem ov_mvL {y : Nat → Int32} : ∀ (n i : Nat) (z : Nat → Int32) (q x : Int32), i + n ≤ 4 → mvL n i (ov y z) q x = (ov y (mvL n i z q x).1, (mvL n i z q x).2) := by
  intro n
  induction n with
  | zero => intro i z q x _; rfl
  | succ n ih =>
    intro i z q x h
    rw [mvL, mvL, ov_step (by omega), ov_rd (by omega)]
    exact ih _ _ _ _ (by omega)
theorem ov_mvF {y z : Nat → Int32} {q : Int32} (h : nOf z ≤ 4) : mvF (ov y z) q = (ov y (mvF z q).1, (mvF z q).2) := by
  unfold mvF
  rw [ov_n]
  exact ov_mvL _ _ _ _ _ (by omega)
theorem ov_mvV {y z : Nat → Int32} {v : Int32} : mvV v (ov y z) = ov y (mvV v z) := by
  unfold mvV
  simp (disch := omega) only [ov_rd, ov_up]
theorem ov_slotD {y z : Nat → Int32} (h : nOf z ≤ 4) : slotD (ov y z) = ov y (slotD z) := by
  unfold slotD
  simp (disch := omega) only [ov_r, ov_rd, ov_stopTo]
  repeat' split
  all_goals rfl
theorem ov_pcA {y z : Nat → Int32} {i : Nat} (hz : zOK z) : pcA i (ov y z) = ov y (pcA i z) := by
  have h4 := zOK_m4 hz
  unfold pcA
  rw [ov_r, ov_m, ov_rd (by omega), ov_slotA _ _ _ hz (by omega)]
  split
  all_goals rfl
theorem ov_pcD {y z : Nat → Int32} {i : Nat} {q : Int32} (hz : zOK z) : pcD i (ov y z) q = ov y (pcD i z q) ∧ (mvF (pcA i (ov y z)) q).2 = (mvF (pcA i z) q).2 := by
  have h1 := pcA_OK (i := i) hz
  have h2 : zOK (mvV (mvF (pcA i z) q).2.2 (mvF (pcA i z) q).1) := mvV_OK (mvF_OK h1)
  unfold pcD
  rw [ov_pcA hz, ov_mvF h1.2.2.1]
  dsimp only
  rw [ov_mvV, ov_slotD h2.2.2.1]
  exact ⟨rfl, rfl⟩
theorem ov_pcL {y : Nat → Int32} : ∀ (n i : Nat) (z : Nat → Int32) (l u q x : Int32), zOK z → pcL n i (ov y z) l u q x = (ov y (pcL n i z l u q x).1, (pcL n i z l u q x).2) := by
  intro n
  induction n with
  | zero => intro i z l u q x _; rfl
  | succ n ih =>
    intro i z l u q x hz
    obtain ⟨e1, e2⟩ := ov_pcD (y := y) (i := i) (q := q) hz
    rw [pcL, pcL, e1, e2, ov_rd (by omega)]
    exact ih _ _ _ _ _ _ (pcD_OK hz)
theorem ov_pcU {y z : Nat → Int32} {l u q : Int32} (hz : zOK z) : pcU (ov y z) l u q = (ov y (pcU z l u q).1, (pcU z l u q).2) := by
  have h1 := cy1_OK hz
  have h2 := aim_OK h1
  unfold pcU
  rw [ov_cy1 hz.2.2.1, ov_aim, ov_cy3 (zOK_m4 h2)]
  exact ov_pcL _ _ _ _ _ _ _ (cy3_OK h2)
theorem ov_pcF {y z : Nat → Int32} {l u q : Int32} (hz : zOK z) : pcF (ov y z) l u q = ov y (pcF z l u q) := by
  unfold pcF
  rw [ov_pcU hz]
  dsimp only
  rw [ov_rd (by omega), ov_up (by omega), ov_up (by omega)]
/-- agreement, but for 23, 27, 31 and from 63 on -/
def ag (y z : Nat → Int32) : Prop := ∀ j, j < 63 ∧ j ≠ 23 ∧ j ≠ 27 ∧ j ≠ 31 → y j = z j
theorem ag_ov {y z : Nat → Int32} (h : ag y z) : ov y z = y := by
  funext j
  unfold ov
  by_cases h2 : j < 63 ∧ j ≠ 23 ∧ j ≠ 27 ∧ j ≠ 31
  · rw [if_pos h2, h j h2]
  · rw [if_neg h2]
theorem ov_ag {y z : Nat → Int32} : ag (ov y z) z := fun _ h => ov_rd h
theorem ag_rfl {z : Nat → Int32} : ag z z := fun _ _ => rfl
theorem ag_pc {y z : Nat → Int32} {l u q : Int32} (hz : zOK z) (h : ag y z) : ag (pcF y l u q) (pcF z l u q) ∧ (pcU y l u q).2 = (pcU z l u q).2 := by
  have e1 := ov_pcF (y := y) (l := l) (u := u) (q := q) hz
  have e2 := ov_pcU (y := y) (l := l) (u := u) (q := q) hz
  rw [ag_ov h] at e1 e2
  rw [e1, e2]
  exact ⟨ov_ag, rfl⟩
