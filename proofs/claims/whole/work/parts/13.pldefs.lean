/-! The plant's methods in the reference's words. -/
/-- the phases that aren't there hold nothing -/
def zZ (z : Nat → Int32) : Prop := ∀ i, 35 + 7 * nOf z ≤ i → i < 63 → z i = 0
theorem zZ_of {z y : Nat → Int32} (h : zZ z) (hn : nOf y = nOf z) (hy : ∀ i, 35 + 7 * nOf z ≤ i → i < 63 → y i = z i) : zZ y := fun i h1 h2 => by
  rw [hn] at h1
  rw [hy i h1 h2]
  exact h i h1 h2
theorem stopL_in {N : Nat} : ∀ (n i : Nat) (z : Nat → Int32) (k j : Nat), j < 7 → stopL n i z (35 + 7 * k + j) = if i ≤ k ∧ k < i + n ∧ j = 1 then 0 else z (35 + 7 * k + j) := by
  intro n
  induction n with
  | zero => intro i z k j hj; rw [if_neg (by omega)]; rfl
  | succ n ih =>
    intro i z k j hj
    show stopL n (i + 1) _ _ = _
    rw [ih _ _ _ _ hj]
    by_cases h : i + 1 ≤ k ∧ k < i + 1 + n ∧ j = 1
    · rw [if_pos h, if_pos (by omega)]
    · rw [if_neg h]
      by_cases h2 : k = i ∧ j = 1
      · obtain ⟨rfl, rfl⟩ := h2
        rw [pk_us, if_pos (by omega)]
      · rw [pk_un (by omega), if_neg (by omega)]
theorem startL_in : ∀ (n i : Nat) (z : Nat → Int32) (k j : Nat), j < 7 → startL n i z (35 + 7 * k + j) = if i ≤ k ∧ k < i + n ∧ j = 2 then 0 else z (35 + 7 * k + j) := by
  intro n
  induction n with
  | zero => intro i z k j hj; rw [if_neg (by omega)]; rfl
  | succ n ih =>
    intro i z k j hj
    show startL n (i + 1) _ _ = _
    rw [ih _ _ _ _ hj]
    by_cases h : i + 1 ≤ k ∧ k < i + 1 + n ∧ j = 2
    · rw [if_pos h, if_pos (by omega)]
    · rw [if_neg h]
      by_cases h2 : k = i ∧ j = 2
      · obtain ⟨rfl, rfl⟩ := h2
        rw [pk_us, if_pos (by omega)]
      · rw [pk_un (by omega), if_neg (by omega)]
/-- the places of phases, one by one -/
theorem ph_ix {i : Nat} (h : 35 ≤ i) (h2 : i < 63) : ∃ k j, k < 4 ∧ j < 7 ∧ i = 35 + 7 * k + j := ⟨(i - 35) / 7, (i - 35) % 7, by omega, by omega, by omega⟩
theorem wP_stop {E : EE} {B : Nat → Nat} {g z : Nat → Int32} {l u q v : Int32} (hz : zOK z) (hZ : zZ z) : wP E B g (stopL 4 0 (upd z 20 v)) l u q = wP E B g (stopTo v z) l u q := by
  have hn := hz.2.2.1
  refine wP_congr (fun i hi => ?_) (fun i h1 h2 => ?_)
  · have := plI_lt hi
    unfold stopTo
    rw [stopL_lt (by omega), stopL_lt (by omega)]
  · obtain ⟨k, j, hk, hj, rfl⟩ := ph_ix h1 h2
    unfold stopTo
    rw [stopL_in (N := 0) _ _ _ _ _ hj, stopL_in (N := 0) _ _ _ _ _ hj]
    by_cases h : j = 1
    · rw [if_pos (show 0 ≤ k ∧ k < 0 + 4 ∧ j = 1 by omega)]
      by_cases h3 : k < nOf z
      · rw [if_pos (by omega)]
      · rw [if_neg (by omega), pk_un (by omega)]
        exact hZ _ (by omega) (by omega)
    · rw [if_neg (by omega), if_neg (by omega)]
theorem wP_start {E : EE} {B : Nat → Nat} {g z : Nat → Int32} {l u q : Int32} (hz : zOK z) (hZ : zZ z) : wP E B g (startL 4 0 (upd (upd (upd (upd (upd (upd z 20 1) 18 (z 17)) 19 0) 29 0) 30 0) 16 (z 15))) l u q = wP E B g (startZ z) l u q := by
  have hn := hz.2.2.1
  refine wP_congr (fun i hi => ?_) (fun i h1 h2 => ?_)
  · have := plI_lt hi
    unfold startZ
    rw [startL_lt (by omega), startL_lt (by omega)]
  · obtain ⟨k, j, hk, hj, rfl⟩ := ph_ix h1 h2
    unfold startZ
    rw [startL_in _ _ _ _ _ hj, startL_in _ _ _ _ _ hj]
    by_cases h : j = 2
    · rw [if_pos (show 0 ≤ k ∧ k < 0 + 4 ∧ j = 2 by omega)]
      by_cases h3 : k < nOf z
      · rw [if_pos (by omega)]
      · rw [if_neg (by omega), pk_un (by omega), pk_un (by omega), pk_un (by omega), pk_un (by omega), pk_un (by omega), pk_un (by omega)]
        exact hZ _ (by omega) (by omega)
    · rw [if_neg (by omega), if_neg (by omega)]
theorem ad_swap (z : Nat → Int32) : (if z 15 ≤ z 16 then 0 else (if z 22 ≤ z 10 * z 16 then 0 else z 29 + 1)) = adI z := by
  unfold adI
  by_cases h1 : z 15 ≤ z 16 <;> by_cases h2 : z 22 ≤ z 10 * z 16 <;> simp only [h1, h2, if_true, if_false]
/-- sums over the phases of their numbers j -/
def sumJ (j : Nat) (z : Nat → Int32) : Nat → Nat → Int32 → Int32
  | 0, _, x => x
  | n + 1, i, x => sumJ j z n (i + 1) (x + z (35 + 7 * i + j))
def limS (z : Nat → Int32) : Int32 := sumJ 4 z (nOf z) 0 0
def skpS (z : Nat → Int32) : Int32 := sumJ 5 z (nOf z) 0 0
/-- how unlike, as the class says it -/
def spL (z : Nat → Int32) : Nat → Nat → Int32 → Int32 → Int32
  | 0, _, lo, hi => hi - lo
  | n + 1, i, lo, hi => spL z n (i + 1) (if z (35 + 7 * i + 0) < lo then z (35 + 7 * i + 0) else lo) (if hi < z (35 + 7 * i + 0) then z (35 + 7 * i + 0) else hi)
theorem spL_eq (z : Nat → Int32) : ∀ (n i : Nat) (lo hi : Int32), spL z n i lo hi = unL z n i lo hi := by
  intro n
  induction n with
  | zero => intro i lo hi; rfl
  | succ n ih =>
    intro i lo hi
    show spL z n (i + 1) _ _ = unL z n (i + 1) _ _
    rw [ih]
    have e1 : (if z (35 + 7 * i + 0) < lo then z (35 + 7 * i + 0) else lo) = (if lo ≤ z (35 + 7 * i + 0) then lo else z (35 + 7 * i + 0)) := by
      by_cases h : z (35 + 7 * i + 0) < lo
      · rw [if_pos h, if_neg (Int32.not_le.mpr h)]
      · rw [if_neg h, if_pos (Int32.not_lt.mp h)]
    have e2 : (if hi < z (35 + 7 * i + 0) then z (35 + 7 * i + 0) else hi) = (if z (35 + 7 * i + 0) ≤ hi then hi else z (35 + 7 * i + 0)) := by
      by_cases h : hi < z (35 + 7 * i + 0)
      · rw [if_pos h, if_neg (Int32.not_le.mpr h)]
      · rw [if_neg h, if_pos (Int32.not_lt.mp h)]
    rw [e1, e2]
/-- a phase's slot is the reference's step -/
theorem wP_step {E : EE} {B : Nat → Nat} {g z : Nat → Int32} {l u q : Int32} {k : Nat} {x v w : Int32} (hk : k < 4) (hx : z 5 = x) (hv : (z 0 - z 17) / z 3 = v) (hw : z 17 / z 3 = w) :
    (wP E B g z l u q).set (3 + k) (B (3 + k), c1 (psF x v w (fun j => z (35 + 7 * k + j)))) = wP E B g (step k z) l u q := by
  subst hx; subst hv; subst hw
  have sh : ∀ (y : Nat → Int32) (i : Nat) (v : Int32), (fun j => upd y (35 + 7 * k + i) v (35 + 7 * k + j)) = upd (fun j => y (35 + 7 * k + j)) i v := by
    intro y i v
    funext j
    by_cases h : j = i
    · subst h; rw [pk_us, pk_us]
    · rw [pk_un (by omega), pk_un h]
  have sh2 : ∀ (y : Nat → Int32) (i : Nat) (v : Int32), i < 35 → (fun j => upd y i v (35 + 7 * k + j)) = fun j => y (35 + 7 * k + j) := by
    intro y i v hi
    funext j
    rw [pk_un (by omega)]
  have e1 : (fun j => st1 k z (35 + 7 * k + j)) = ps1 (z 5) (fun j => z (35 + 7 * k + j)) := by
    unfold st1 ps1
    split
    · rfl
    · split
      · rfl
      · rw [sh2 _ _ _ (by omega), sh, sh]
  have e2 : ∀ y : Nat → Int32, y 17 = z 17 → y 3 = z 3 → y 0 = z 0 → (fun j => st2 k y (35 + 7 * k + j)) = ps2 ((z 0 - z 17) / z 3) (z 17 / z 3) (fun j => y (35 + 7 * k + j)) := by
    intro y a1 a2 a3
    unfold st2 ps2
    rw [a1, a2, a3]
    split
    · rw [sh]
    · rw [sh, sh, sh]
  have e3 : ∀ y : Nat → Int32, (fun j => st3 k y (35 + 7 * k + j)) = ps3 (fun j => y (35 + 7 * k + j)) := by
    intro y
    unfold st3 ps3
    rw [sh]
    by_cases h : 0 ≤ y (35 + 7 * k + 0)
    · rw [if_pos h, if_pos h]
      funext j
      by_cases hj : j = 0
      · subst hj; rw [pk_us]
      · rw [pk_un hj]
    · rw [if_neg h, if_neg h]
  have ee : (fun j => step k z (35 + 7 * k + j)) = psF (z 5) ((z 0 - z 17) / z 3) (z 17 / z 3) (fun j => z (35 + 7 * k + j)) := by
    unfold step psF
    rw [e3, e2 _ (st1_lt (by omega) (by omega)) (st1_lt (by omega) (by omega)) (st1_lt (by omega) (by omega)), e1]
  refine wP_ins hk (fun i hi => ?_) (fun p j hp hj hne => ?_) (fun j hj => congrFun ee j)
  · have := plI_lt hi
    exact step_lt (by omega) (by omega)
  · have o1 : ∀ y : Nat → Int32, st1 k y (35 + 7 * p + j) = y (35 + 7 * p + j) := by
      intro y
      unfold st1
      repeat' split
      · rfl
      · rfl
      · rw [pk_un (by omega), pk_un (by omega), pk_un (by omega)]
    have o2 : ∀ y : Nat → Int32, st2 k y (35 + 7 * p + j) = y (35 + 7 * p + j) := by
      intro y
      unfold st2
      split
      · rw [pk_un (by omega)]
      · rw [pk_un (by omega), pk_un (by omega), pk_un (by omega)]
    have o3 : ∀ y : Nat → Int32, st3 k y (35 + 7 * p + j) = y (35 + 7 * p + j) := by
      intro y
      unfold st3
      rw [pk_un (by omega)]
    unfold step
    rw [o3, o2, o1]
theorem wP_skip {E : EE} {B : Nat → Nat} {g z : Nat → Int32} {l u q : Int32} {k : Nat} (hk : k < 4) :
    (wP E B g z l u q).set (3 + k) (B (3 + k), c1 (upd (upd (fun j => z (35 + 7 * k + j)) 1 0) 5 (z (35 + 7 * k + 5) + 1))) = wP E B g (bpSkip k z) l u q := by
  refine wP_ins hk (fun i hi => ?_) (fun p j hp hj hne => ?_) (fun j hj => ?_)
  · have := plI_lt hi
    exact bpSkip_lt (by omega) (by omega)
  · unfold bpSkip
    rw [pk_un (by omega), pk_un (by omega), pk_un (by omega)]
  · unfold bpSkip
    rw [pk_un (by omega)]
    by_cases h5 : j = 5
    · subst h5; rw [pk_us, pk_us]
    · rw [pk_un (by omega), pk_un h5]
      by_cases h1 : j = 1
      · subst h1; rw [pk_us, pk_us]
      · rw [pk_un (by omega), pk_un h1]
theorem wP_go {E : EE} {B : Nat → Nat} {g z : Nat → Int32} {l u q : Int32} {k : Nat} {v : Int32} (hk : k < 4) (hv : v = bpB k z) :
    (wP E B g z l u q).set (3 + k) (B (3 + k), c1 (bgF v (fun j => z (35 + 7 * k + j)))) = wP E B g (bpGo k z) l u q := by
  subst hv
  refine wP_ins hk (fun i hi => ?_) (fun p j hp hj hne => ?_) (fun j hj => ?_)
  · have := plI_lt hi
    exact bpGo_lt (by omega)
  · unfold bpGo
    rw [pk_un (by omega), pk_un (by omega), pk_un (by omega)]
  · unfold bpGo bgF bpRest
    by_cases h6 : j = 6
    · subst h6; rw [pk_us, pk_us]
    · rw [pk_un (by omega), pk_un h6]
      by_cases h2 : j = 2
      · subst h2; rw [pk_us, pk_us]
      · rw [pk_un (by omega), pk_un h2]
        by_cases h1 : j = 1
        · subst h1; rw [pk_us, pk_us]
        · rw [pk_un (by omega), pk_un h1, pk_un h2]
/-- the currents of a slot: the numbers, the greatest current, the sum -/
def mvL : Nat → Nat → (Nat → Int32) → Int32 → Int32 → (Nat → Int32) × Int32 × Int32
  | 0, _, z, q, x => (z, q, x)
  | n + 1, i, z, q, x => mvL n (i + 1) (step i z) (if q < step i z (35 + 7 * i + 0) then step i z (35 + 7 * i + 0) else q) (x + step i z (35 + 7 * i + 0))
def mvF (z : Nat → Int32) (q : Int32) : (Nat → Int32) × Int32 × Int32 := mvL (nOf z) 0 z q 0
def mvV (v : Int32) (z : Nat → Int32) : Nat → Int32 := upd z 17 (clampI (z 17 + (v - z 2) / z 4) 0 40000)
theorem mvV_OK {v : Int32} {z : Nat → Int32} (h : zOK z) : zOK (mvV v z) := upd_OK h (by omega) (by omega) (by omega) (by omega) (by omega)
theorem mvV_Z {v : Int32} {z : Nat → Int32} (h : zZ z) : zZ (mvV v z) := zZ_of h (upd_n (by omega)) (fun i h1 h2 => pk_un (by omega))
def nuT (k : Nat) (z : Nat → Int32) (l u q : Int32) : Int32 := [z 20, z 17, z 18, z 16, z 24, z 22, z 19, z 21, u - l, limS z, skpS z, q, z 28, z 15].getD k 0
theorem runs_2 {z : Nat → Int32} (h : ¬ runsI z = 0) (h1 : ¬ z 20 = 1) : z 20 = 2 := by
  unfold runsI at h
  rw [if_neg h1] at h
  by_cases h2 : z 20 = 2
  · exact h2
  · rw [if_neg h2] at h
    exact absurd rfl h
