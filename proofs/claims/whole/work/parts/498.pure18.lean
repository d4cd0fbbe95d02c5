/-! The reading of a text: the class's states beside the reference's numbers. -/
def KSd (s : Int32) (G : Nat → Int32) : Prop := ∃ d n : Nat, G 8 = 3 ∧ 1 ≤ d ∧ d ≤ 5 ∧ G 11 = nI d ∧ G 10 = nI n ∧ 1 ≤ n ∧ n < 10 ^ d ∧ s = nI (7 - d)
def KS (s : Int32) (G : Nat → Int32) : Prop :=
  (G 8 = 0 ∧ s = 0) ∨ ((G 8 = 2 ∧ s = 1 ∧ G 10 = 0 ∧ G 11 = 0) ∨ (G 8 = 1 ∧ s = 2 ∧ G 10 = 0) ∨ (G 8 = 3 ∧ s = 2 ∧ G 10 = 0) ∨ KSd s G) ∧ ¬ isI (G 9) = 0
theorem KS_0 {s : Int32} {G : Nat → Int32} (h : KS s G) (h8 : G 8 = 0) : s = 0 := by
  rcases h with h | ⟨h | h | h | ⟨d, n, h⟩, -⟩
  · exact h.2
  · rw [h.1] at h8; exact absurd h8 (by decide)
  · rw [h.1] at h8; exact absurd h8 (by decide)
  · rw [h.1] at h8; exact absurd h8 (by decide)
  · rw [h.1] at h8; exact absurd h8 (by decide)
theorem KS_ne {s : Int32} {G : Nat → Int32} (h : KS s G) : ¬ s = -1 := by
  rcases h with h | ⟨h | h | h | ⟨d, n, h⟩, -⟩
  · rw [h.2]; decide
  · rw [h.2.1]; decide
  · rw [h.2.1]; decide
  · rw [h.2.1]; decide
  · rw [h.2.2.2.2.2.2.2]
    intro e
    have h2 := h.2.1
    have h3 := h.2.2.1
    have e2 := congrArg Int32.toInt e
    rw [nI_toInt (by omega), show (-1 : Int32).toInt = -1 by decide] at e2
    omega
/-- the state tells whether a text may end here -/
theorem KS_2 {s : Int32} {G : Nat → Int32} (h : KS s G) : s < 2 ↔ ¬ (G 8 = 1 ∨ G 8 = 3) := by
  rcases h with h | ⟨h | h | h | ⟨d, n, h⟩, -⟩
  · rw [h.2, h.1]; decide
  · rw [h.2.1, h.1]; decide
  · rw [h.2.1, h.1]; decide
  · rw [h.2.1, h.1]; decide
  · rw [h.2.2.2.2.2.2.2, h.1]
    have h2 := h.2.1
    have h3 := h.2.2.1
    refine ⟨fun e => absurd e ?_, fun e => absurd (Or.inr rfl) e⟩
    exact nI_nlt (a := 7 - d) (b := 2) (by omega) (by omega)
theorem dig_of {v : Int32} (h : ¬ inRg v 48 57 = 0) : ∃ k : Nat, k ≤ 9 ∧ v = nI (48 + k) := by
  obtain ⟨h1, h2⟩ := inRg_ok h
  have h0 : ¬ v < 0 := by
    rw [Int32.lt_iff_toInt_lt] at h1 ⊢
    have e1 : (48 : Int32).toInt = 48 := by decide
    have e0 : (0 : Int32).toInt = 0 := by decide
    omega
  obtain ⟨j, hj, rfl⟩ := nI_of2 (M := 57) (n := 57) (by decide) h0 (int_nlt h2)
  have h48 : 48 ≤ j := by
    rcases Nat.lt_or_ge j 48 with q | q
    · exact absurd (nI_lt (a := j) (b := 48) q (by omega)) h1
    · exact q
  exact ⟨j - 48, by omega, by rw [show 48 + (j - 48) = j by omega]⟩
theorem dig_num {n k : Nat} : 10 * nI n + nI (48 + k) - 48 = nI (10 * n + k) := by
  rw [show (10 : Int32) = nI 10 from rfl, show (48 : Int32) = nI 48 from rfl, pk_mul, nI_add, pk_sub (by omega), show 10 * n + (48 + k) - 48 = 10 * n + k by omega]
theorem dig_ne44 {k : Nat} (hk : k ≤ 9) : ¬ nI (48 + k) = 44 := fun e => by
  have := (nI_eq (a := 48 + k) (b := 44) (by omega) (by omega)).mp e
  omega
theorem dig_48 {k : Nat} (hk : k ≤ 9) : nI (48 + k) = 48 ↔ k = 0 := by
  refine ⟨fun e => ?_, fun e => by rw [e]; rfl⟩
  have := (nI_eq (a := 48 + k) (b := 48) (by omega) (by omega)).mp e
  omega
theorem isI_of {v : Int32} (h : ¬ isI v = 0) : (v = 115 ∨ v = 120) ∨ v = 105 ∨ v = 116 ∨ v = 108 ∨ v = 99 ∨ v = 114 := by
  refine Classical.byContradiction (fun q => h ?_)
  have q1 : ¬ v = 115 := fun e => q (Or.inl (Or.inl e))
  have q2 : ¬ v = 120 := fun e => q (Or.inl (Or.inr e))
  have q3 : ¬ v = 105 := fun e => q (Or.inr (Or.inl e))
  have q4 : ¬ v = 116 := fun e => q (Or.inr (Or.inr (Or.inl e)))
  have q5 : ¬ v = 108 := fun e => q (Or.inr (Or.inr (Or.inr (Or.inl e))))
  have q6 : ¬ v = 99 := fun e => q (Or.inr (Or.inr (Or.inr (Or.inr (Or.inl e)))))
  have q7 : ¬ v = 114 := fun e => q (Or.inr (Or.inr (Or.inr (Or.inr (Or.inr e)))))
  unfold isI bareI
  rw [if_neg q1, if_neg q2, if_pos rfl, if_neg q3, if_neg q4, if_neg q5, if_neg q6, if_neg q7]
theorem let_ts {v : Int32} (h : isI v = 0) : lettI v = -1 := by
  have n : ∀ w : Int32, ¬ isI w = 0 → ¬ v = w := fun w hw e => by subst e; exact hw h
  unfold lettI
  rw [if_neg (n 115 (by decide)), if_neg (n 120 (by decide)), if_neg (n 105 (by decide)), if_neg (n 116 (by decide)), if_neg (n 108 (by decide)), if_neg (n 99 (by decide)), if_neg (n 114 (by decide))]
theorem ts_KS {v : Int32} {G : Nat → Int32} (h : ¬ isI v = 0) : ¬ lettI v = -1 ∧ KS (lettI v) (tsG v G) := by
  have e9 : tsG v G 9 = v := by unfold tsG; rw [if_neg h, pk_un (by omega), pk_un (by omega), pk_un (by omega), pk_us]
  have e10 : tsG v G 10 = 0 := by unfold tsG; rw [if_neg h, pk_un (by omega), pk_un (by omega), pk_us]
  have e11 : tsG v G 11 = 0 := by unfold tsG; rw [if_neg h, pk_un (by omega), pk_us]
  have e8 : tsG v G 8 = (if bareI v = 0 then 2 else 1) := by unfold tsG; rw [if_neg h, pk_us]
  refine ⟨?_, Or.inr ⟨?_, by rw [e9]; exact h⟩⟩
  · rcases isI_of h with (q | q) | q | q | q | q | q <;> subst q <;> decide
  · rw [e8, e10, e11]
    rcases isI_of h with (q | q) | q | q | q | q | q
    · subst q; exact Or.inr (Or.inl (by decide))
    · subst q; exact Or.inr (Or.inl (by decide))
    · subst q; exact Or.inl (by decide)
    · subst q; exact Or.inl (by decide)
    · subst q; exact Or.inl (by decide)
    · subst q; exact Or.inl (by decide)
    · subst q; exact Or.inl (by decide)
theorem end_8 {G : Nat → Int32} : endG G 8 = 0 := by unfold endG; rw [pk_us]
theorem acc_k {v : Int32} {G r : Nat → Int32} : (tkAcc v G r).1 8 = 3 ∧ (tkAcc v G r).1 10 = 10 * G 10 + v - 48 ∧ (tkAcc v G r).1 11 = G 11 + 1 ∧ (tkAcc v G r).1 9 = G 9 ∧ (tkAcc v G r).2.2 = 1 ∧ (tkAcc v G r).1 12 = G 12 ∧ (tkAcc v G r).2.1 = r := by
  unfold tkAcc
  dsimp only
  refine ⟨?_, ?_, ?_, ?_, rfl, ?_, rfl⟩
  · rw [pk_us]
  · rw [pk_un (by omega), pk_un (by omega), pk_us]
  · rw [pk_un (by omega), pk_us]
  · rw [pk_un (by omega), pk_un (by omega), pk_un (by omega)]
  · rw [pk_un (by omega), pk_un (by omega), pk_un (by omega)]
/-- one more digit -/
theorem KSd_step {s v : Int32} {G r : Nat → Int32} (h : KSd s G) (hv : ¬ inRg v 48 57 = 0) (h5 : ¬ G 11 = 5) : ¬ s ≤ 2 ∧ KSd (s - 1) (tkAcc v G r).1 := by
  obtain ⟨d, n, h8, hd1, hd5, h11, h10, hn1, hn, hs⟩ := h
  obtain ⟨k, hk, rfl⟩ := dig_of hv
  obtain ⟨a8, a10, a11, -, -⟩ := acc_k (v := nI (48 + k)) (G := G) (r := r)
  have hd : d < 5 := by
    rcases Nat.lt_or_ge d 5 with q | q
    · exact q
    · exact absurd (by rw [h11, show d = 5 by omega]; rfl) h5
  refine ⟨?_, d + 1, 10 * n + k, a8, by omega, by omega, by rw [a11, h11, nI_1], by rw [a10, h10, dig_num], by omega, ?_, ?_⟩
  · rw [hs]
    exact nI_ge (a := 2) (b := 7 - d) (by omega) (by omega)
  · rw [Nat.pow_succ]
    omega
  · rw [hs, show (1 : Int32) = nI 1 from rfl, pk_sub (by omega), show 7 - d - 1 = 7 - (d + 1) by omega]
theorem KSd_10 {s : Int32} {G : Nat → Int32} (h : KSd s G) : G 8 = 3 ∧ ¬ G 10 = 0 ∧ (G 11 = 5 → s = 2) ∧ ¬ s = 0 ∧ ¬ s = 1 := by
  obtain ⟨d, n, h8, hd1, hd5, h11, h10, hn1, hn, hs⟩ := h
  have hn5 : n < 2 ^ 31 := by
    have : 10 ^ d ≤ 10 ^ 5 := Nat.pow_le_pow_right (by omega) hd5
    omega
  refine ⟨h8, by rw [h10]; exact nI_ne0 (by omega) hn5, fun e => ?_, ?_, ?_⟩
  · rw [h11] at e
    have := (nI_eq (a := d) (b := 5) (by omega) (by omega)).mp e
    rw [hs, this]
    rfl
  · rw [hs]; exact nI_ne0 (by omega) (by omega)
  · rw [hs]
    intro e
    have := (nI_eq (a := 7 - d) (b := 1) (by omega) (by omega)).mp e
    omega
theorem sa_1 {v : Int32} : saI 1 v = (if v = 48 then 2 else (if inRg v 48 57 = 0 then -1 else 6)) := by
  unfold saI
  rw [if_neg (show ¬ (1 : Int32) = 0 by decide), if_pos (show (1 : Int32) = 1 from rfl)]
theorem sa_n {s v : Int32} (s0 : ¬ s = 0) (s1 : ¬ s = 1) : saI s v = (if v = 44 then 0 else (if s ≤ 2 then -1 else (if inRg v 48 57 = 0 then -1 else s - 1))) := by
  unfold saI
  rw [if_neg s0, if_neg s1]
theorem tk_2 {v : Int32} {G r : Nat → Int32} {it : Nat} (h8 : G 8 = 2) : tkF v G it r = tkRest v G r := by
  have h0 : ¬ G 8 = 0 := by rw [h8]; decide
  unfold tkF
  rw [if_neg h0, if_pos h8]
  split <;> rfl
theorem tk_n {v : Int32} {G r : Nat → Int32} {it : Nat} (h0 : ¬ G 8 = 0) (hv : ¬ v = 44) : tkF v G it r = tkRest v G r := by
  unfold tkF
  rw [if_neg h0, if_neg hv]
theorem tk_e {v : Int32} {G r : Nat → Int32} {it : Nat} (h0 : ¬ G 8 = 0) (h2 : ¬ G 8 = 2) (hv : v = 44) : tkF v G it r = (endG G, endR it G r, 1) := by
  unfold tkF
  rw [if_neg h0, if_pos hv, if_neg h2]
theorem rest_no {v : Int32} {G r : Nat → Int32} (h : inRg v 48 57 = 0 ∨ G 8 = 1 ∨ (G 8 = 3 ∧ (G 10 = 0 ∨ G 11 = 5))) : tkRest v G r = (G, r, 0) := by
  unfold tkRest
  by_cases h1 : inRg v 48 57 = 0
  · rw [if_pos h1]
  · rw [if_neg h1]
    by_cases h2 : G 8 = 1
    · rw [if_pos h2]
    · rw [if_neg h2]
      rcases h with h | h | ⟨h, h3⟩
      · exact absurd h h1
      · exact absurd h h2
      · rw [if_pos h]
        by_cases h4 : G 10 = 0
        · rw [if_pos h4]
        · rw [if_neg h4]
          rcases h3 with h3 | h3
          · exact absurd h3 h4
          · rw [if_pos h3]
theorem rest_yes {v : Int32} {G r : Nat → Int32} (h1 : ¬ inRg v 48 57 = 0) (h2 : ¬ G 8 = 1) (h3 : G 8 = 3 → ¬ G 10 = 0 ∧ ¬ G 11 = 5) : tkRest v G r = tkAcc v G r := by
  unfold tkRest
  rw [if_neg h1, if_neg h2]
  by_cases h : G 8 = 3
  · rw [if_pos h, if_neg (h3 h).1, if_neg (h3 h).2]
  · rw [if_neg h]
/-- a character: both refuse it, or both take it -/
theorem tk_sa {s v : Int32} {G r : Nat → Int32} {it : Nat} (hK : KS s G) : ((tkF v G it r).2.2 = 0 ∧ saI s v = -1) ∨ ((tkF v G it r).2.2 = 1 ∧ ¬ saI s v = -1 ∧ KS (saI s v) (tkF v G it r).1) := by
  have end_ok : ∀ {s : Int32}, ¬ s = 0 → ¬ s = 1 → v = 44 → ¬ G 8 = 0 → ¬ G 8 = 2 → ((tkF v G it r).2.2 = 0 ∧ saI s v = -1) ∨ ((tkF v G it r).2.2 = 1 ∧ ¬ saI s v = -1 ∧ KS (saI s v) (tkF v G it r).1) := by
    intro s s0 s1 hv h8 h82
    rw [tk_e h8 h82 hv, sa_n s0 s1, if_pos hv]
    exact Or.inr ⟨rfl, by decide, Or.inl ⟨end_8 (G := G), rfl⟩⟩
  rcases hK with ⟨h8, rfl⟩ | ⟨⟨h8, rfl, h10, h11⟩ | ⟨h8, rfl, h10⟩ | ⟨h8, rfl, h10⟩ | h, hi⟩
  · have e1 : tkF v G it r = (tsG v G, r, isI v) := by
      unfold tkF
      rw [if_pos h8]
    have e2 : saI 0 v = lettI v := by
      unfold saI
      rw [if_pos rfl]
    rw [e1, e2]
    rcases isI_01 v with h | h
    · exact Or.inl ⟨h, let_ts h⟩
    · have hn : ¬ isI v = 0 := by rw [h]; decide
      exact Or.inr ⟨h, ts_KS hn⟩
  · have n1 : ¬ G 8 = 1 := by rw [h8]; decide
    have n3 : ¬ G 8 = 3 := by rw [h8]; decide
    rw [tk_2 h8, sa_1]
    by_cases hd : inRg v 48 57 = 0
    · have hv : ¬ v = 48 := fun q => by subst q; exact absurd hd (by decide)
      rw [rest_no (Or.inl hd), if_pos hd, if_neg hv]
      exact Or.inl ⟨rfl, rfl⟩
    · rw [rest_yes hd n1 (fun q => absurd q n3), if_neg hd]
      obtain ⟨k, hk, rfl⟩ := dig_of hd
      obtain ⟨a8, a10, a11, a9, a1, -⟩ := acc_k (v := nI (48 + k)) (G := G) (r := r)
      have e10 : (tkAcc (nI (48 + k)) G r).1 10 = nI k := by
        rw [a10, h10, show (0 : Int32) = nI 0 from rfl, dig_num, show 10 * 0 + k = k by omega]
      by_cases k0 : k = 0
      · subst k0
        rw [if_pos (show nI (48 + 0) = 48 from rfl)]
        exact Or.inr ⟨a1, by decide, Or.inr ⟨Or.inr (Or.inr (Or.inl ⟨a8, rfl, e10⟩)), by rw [a9]; exact hi⟩⟩
      · rw [if_neg (fun q => k0 ((dig_48 hk).mp q))]
        exact Or.inr ⟨a1, by decide, Or.inr ⟨Or.inr (Or.inr (Or.inr ⟨1, k, a8, by omega, by omega, by rw [a11, h11]; rfl, e10, by omega, by omega, rfl⟩)), by rw [a9]; exact hi⟩⟩
  · have n0 : ¬ G 8 = 0 := by rw [h8]; decide
    by_cases hv : v = 44
    · exact end_ok (by decide) (by decide) hv n0 (by rw [h8]; decide)
    · rw [tk_n n0 hv, rest_no (Or.inr (Or.inl h8)), sa_n (by decide) (by decide), if_neg hv, if_pos (show (2 : Int32) ≤ 2 by decide)]
      exact Or.inl ⟨rfl, rfl⟩
  · have n0 : ¬ G 8 = 0 := by rw [h8]; decide
    by_cases hv : v = 44
    · exact end_ok (by decide) (by decide) hv n0 (by rw [h8]; decide)
    · rw [tk_n n0 hv, rest_no (Or.inr (Or.inr ⟨h8, Or.inl h10⟩)), sa_n (by decide) (by decide), if_neg hv, if_pos (show (2 : Int32) ≤ 2 by decide)]
      exact Or.inl ⟨rfl, rfl⟩
  · obtain ⟨h8, h10, h11, s0, s1⟩ := KSd_10 h
    have n0 : ¬ G 8 = 0 := by rw [h8]; decide
    have n1 : ¬ G 8 = 1 := by rw [h8]; decide
    by_cases hv : v = 44
    · exact end_ok s0 s1 hv n0 (by rw [h8]; decide)
    · rw [tk_n n0 hv, sa_n s0 s1, if_neg hv]
      by_cases hd : inRg v 48 57 = 0
      · rw [rest_no (Or.inl hd), if_pos hd]
        refine Or.inl ⟨rfl, ?_⟩
        split <;> rfl
      · rw [if_neg hd]
        by_cases e5 : G 11 = 5
        · rw [rest_no (Or.inr (Or.inr ⟨h8, Or.inr e5⟩)), h11 e5]
          exact Or.inl ⟨rfl, by decide⟩
        · obtain ⟨b1, b2⟩ := KSd_step (r := r) h hd e5
          obtain ⟨-, -, -, a9, a1, -⟩ := acc_k (v := v) (G := G) (r := r)
          rw [rest_yes hd n1 (fun _ => ⟨h10, e5⟩), if_neg b1]
          have hK2 : KS (s - 1) (tkAcc v G r).1 := Or.inr ⟨Or.inr (Or.inr (Or.inr b2)), by rw [a9]; exact hi⟩
          exact Or.inr ⟨a1, KS_ne hK2, hK2⟩
theorem ei_eq {t : Nat → Int32} : ∀ (n i : Nat) (s : Int32) (G r : Nat → Int32), KS s G → eiL t n i s = (rtL t n i G r).2.2 := by
  intro n
  induction n with
  | zero => intro i s G r _; rfl
  | succ n ih =>
    intro i s G r h
    rw [eiL, rtL]
    rcases tk_sa (v := t i) (it := itOf G) (r := r) h with ⟨a1, a2⟩ | ⟨a1, a2, a3⟩
    · rw [if_pos a1, if_pos a2]
    · rw [if_neg a2, if_neg (by rw [a1]; decide)]
      exact ih _ _ _ _ a3
theorem ic_1 {f : Nat → Int32} : ∀ (n i : Nat), icL f n i (-1) = -1 := by
  intro n i
  cases n with
  | zero => rfl
  | succ n => rw [icL, if_pos rfl]
theorem ic_eq {t : Nat → Int32} : ∀ (n i : Nat) (s : Int32) (G r : Nat → Int32), i + n ≤ 50 → KS s G → (icL t n i s = -1 ∧ ¬ (rtL t n i G r).2.2 = nI (i + n)) ∨ ((rtL t n i G r).2.2 = nI (i + n) ∧ KS (icL t n i s) (rtL t n i G r).1) := by
  intro n
  induction n with
  | zero => intro i s G r _ h; exact Or.inr ⟨rfl, h⟩
  | succ n ih =>
    intro i s G r hb h
    rw [icL, rtL, if_neg (KS_ne h)]
    rcases tk_sa (v := t i) (it := itOf G) (r := r) h with ⟨a1, a2⟩ | ⟨a1, a2, a3⟩
    · rw [if_pos a1, a2, ic_1]
      refine Or.inl ⟨rfl, fun e => ?_⟩
      have := (nI_eq (a := i) (b := i + (n + 1)) (by omega) (by omega)).mp e
      omega
    · rw [if_neg (by rw [a1]; decide), show i + (n + 1) = i + 1 + n by omega]
      exact ih _ _ _ _ (by omega) a3
theorem KS_start {G : Nat → Int32} : KS 0 (upd (upd G 8 0) 12 0) := Or.inl ⟨by rw [pk_un (by omega), pk_us], rfl⟩
theorem fe_eq {t G r : Nat → Int32} {L : Nat} : eiL t L 0 0 = (rdF t L G r).2.2 := ei_eq _ _ _ _ _ KS_start
theorem rd_3 {t G r : Nat → Int32} {L : Nat} (hL5 : L ≤ 50) : (rdF t L G r).1 3 = G 3 := by
  have h := (rtL_OK (t := t) L 0 _ r (gOK_0 G) (by omega)).2.1
  unfold rdF
  rw [h, pk_un (by omega), pk_un (by omega)]
theorem pr_eq {t G r : Nat → Int32} {L : Nat} (hL : G 3 = nI L) (hL5 : L ≤ 50) : icI t L = 0 ↔ isPr L (rdF t L G r) ((rdF t L G r).1 3) = 0 := by
  have key := ic_eq (t := t) L 0 0 _ r (by omega) (KS_start (G := G))
  rw [rd_3 hL5, hL]
  unfold icI isPr
  rw [Nat.zero_add] at key
  show _ ↔ (if (rtL t L 0 (upd (upd G 8 0) 12 0) r).2.2 = nI L then (if (rtL t L 0 (upd (upd G 8 0) 12 0) r).1 8 = 1 then 1 else (if (rtL t L 0 (upd (upd G 8 0) 12 0) r).1 8 = 3 then 1 else 0)) else 0) = (0 : Int32)
  rcases key with ⟨a, b⟩ | ⟨a, b⟩
  · rw [if_neg b, a]; decide
  · rw [if_pos a]
    have h2 := KS_2 b
    by_cases e : icL t L 0 0 < 2
    · rw [if_pos e]
      have h3 := h2.mp e
      rw [if_neg (fun q => h3 (Or.inl q)), if_neg (fun q => h3 (Or.inr q))]
    · rw [if_neg e]
      have h3 : (rtL t L 0 (upd (upd G 8 0) 12 0) r).1 8 = 1 ∨ (rtL t L 0 (upd (upd G 8 0) 12 0) r).1 8 = 3 := Classical.byContradiction (fun q => e (h2.mpr q))
      rcases h3 with h3 | h3
      · rw [if_pos h3]
      · rw [if_neg (by rw [h3]; decide), if_pos h3]
