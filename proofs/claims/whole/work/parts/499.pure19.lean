/-! A program carried out: the class goes over the text, the reference over its items. -/
theorem dR_1 {v w : Int32} {z G : Nat → Int32} (h : (doesF v w z G).2 0 = 0) : doesR v w z G = 1 := if_pos h
theorem dR_0 {v w : Int32} {z G : Nat → Int32} (h : ¬ (doesF v w z G).2 0 = 0) : doesR v w z G = 0 := if_neg h
theorem does_eq {v w : Int32} {g : Nat → Int32} {t : QS × HS} {z G : Nat → Int32} (h : RLs g t z) (hv : ¬ isI v = 0) :
    (posI v w t.1.1 = 0 ∧ doesR v w z G = 0 ∧ (doesF v w z G).1 = z) ∨ (¬ posI v w t.1.1 = 0 ∧ doesR v w z G = 1 ∧ RLs (coG v w g) (coF v w t) (doesF v w z G).1) := by
  have e24 : t.1.1 24 = z 24 := h.2.2.1 24 (by omega)
  have e20 : runsI t.1.1 = runsI z := runsI_of (h.2.2.1 20 (by omega))
  by_cases v1 : v = 114
  · have d1 : doesF v w z G = runF w z G := by unfold doesF; rw [if_pos v1]
    have p1 : posI v w t.1.1 = (if inRg w 1 200 = 0 then 0 else (if romI w t.1.1 = 0 then 0 else 1)) := by unfold posI; rw [if_pos v1]
    have c1 : coF v w t = pcsL w.toNatClampNeg t := by unfold coF; rw [if_pos v1]
    have c2 : coG v w g = g := by unfold coG; rw [if_pos v1]
    rw [p1, c1, c2]
    by_cases a1 : inRg w 1 200 = 0
    · have d2 : runF w z G = (z, upd G 0 1) := by unfold runF; rw [if_pos a1]
      rw [d2] at d1
      rw [if_pos a1]
      exact Or.inl ⟨rfl, dR_0 (by rw [d1]; show ¬ upd G 0 1 0 = 0; rw [pk_us]; decide), by rw [d1]⟩
    · rw [if_neg a1]
      by_cases a2 : z 24 + w ≤ 100000
      · have d2 : runF w z G = runL w.toNatClampNeg z (layE (upd G 0 0)) := by unfold runF; rw [if_neg a1, if_pos a2]
        have m1 : romI w t.1.1 = 1 := by unfold romI; rw [e24, if_neg (Int32.not_lt.mpr a2)]
        rw [d2] at d1
        rw [m1, if_neg (show ¬ (1 : Int32) = 0 by decide)]
        refine Or.inr ⟨by decide, dR_1 ?_, ?_⟩
        · rw [d1, runL_G (by omega) (by omega) (by omega), layE_k (by omega) (by omega) (by omega), pk_us]
        · rw [d1]; exact RL_run0 h
      · have d2 : runF w z G = (z, upd G 0 2) := by unfold runF; rw [if_neg a1, if_neg a2]
        have m1 : romI w t.1.1 = 0 := by unfold romI; rw [e24, if_pos (Int32.not_le.mp a2)]
        rw [d2] at d1
        rw [if_pos m1]
        exact Or.inl ⟨rfl, dR_0 (by rw [d1]; show ¬ upd G 0 2 0 = 0; rw [pk_us]; decide), by rw [d1]⟩
  · by_cases v2 : v = 115
    · have d1 : doesF v w z G = (if runsI z = 0 then startZ z else z, upd G 0 (if runsI z = 0 then 0 else 1)) := by unfold doesF; rw [if_neg v1, if_pos v2]
      have p1 : posI v w t.1.1 = (if runsI t.1.1 = 0 then 1 else 0) := by unfold posI; rw [if_neg v1, if_pos v2]
      have c1 : coF v w t = ((startZ t.1.1, t.1.2), t.2) := by unfold coF; rw [if_neg v1, if_pos v2]
      have c2 : coG v w g = g := by unfold coG; rw [if_neg v1, if_pos v2]
      rw [p1, c1, c2, e20]
      by_cases a1 : runsI z = 0
      · rw [if_pos a1, if_pos a1] at d1
        rw [if_pos a1]
        exact Or.inr ⟨by decide, dR_1 (by rw [d1]; show upd G 0 0 0 = 0; exact pk_us), by rw [d1]; exact RLs_start h⟩
      · rw [if_neg a1, if_neg a1] at d1
        rw [if_neg a1]
        exact Or.inl ⟨rfl, dR_0 (by rw [d1]; show ¬ upd G 0 1 0 = 0; rw [pk_us]; decide), by rw [d1]⟩
    · by_cases v3 : v = 120
      · have d1 : doesF v w z G = (stopTo 0 z, upd G 0 0) := by unfold doesF; rw [if_neg v1, if_neg v2, if_pos v3]
        have p1 : posI v w t.1.1 = 1 := by unfold posI; rw [if_neg v1, if_neg v2, if_pos v3]
        have c1 : coF v w t = ((stopTo 0 t.1.1, t.1.2), t.2) := by unfold coF; rw [if_neg v1, if_neg v2, if_pos v3]
        have c2 : coG v w g = g := by unfold coG; rw [if_neg v1, if_neg v2, if_pos v3]
        rw [p1, c1, c2]
        exact Or.inr ⟨by decide, dR_1 (by rw [d1]; show upd G 0 0 0 = 0; exact pk_us), by rw [d1]; exact RLs_stop h⟩
      · have d1 : doesF v w z G = (setZ (sgnI v) w z, upd G 0 (setT (sgnI v) w)) := by unfold doesF; rw [if_neg v1, if_neg v2, if_neg v3]
        have p1 : posI v w t.1.1 = fitI (sofI v) w := by unfold posI; rw [if_neg v1, if_neg v2, if_neg v3]
        have c1 : coF v w t = ((upd t.1.1 (sofI v).toNatClampNeg w, t.1.2), t.2) := by unfold coF; rw [if_neg v1, if_neg v2, if_neg v3]
        have c2 : coG v w g = upd g (sofI v).toNatClampNeg w := by unfold coG; rw [if_neg v1, if_neg v2, if_neg v3]
        have es : sgnI v = sofI v ∧ ¬ inRg (sofI v) 0 14 = 0 := by
          rcases isI_of hv with (q | q) | q | q | q | q | q
          · exact absurd q v2
          · exact absurd q v3
          · subst q; decide
          · subst q; decide
          · subst q; decide
          · subst q; decide
          · exact absurd q v1
        rw [es.1] at d1
        rw [p1, c1, c2]
        by_cases a1 : fitI (sofI v) w = 0
        · have a2 : inRg w (lowT (sofI v).toNatClampNeg) (highT (sofI v).toNatClampNeg) = 0 := by
            unfold fitI at a1
            rw [if_neg es.2] at a1
            exact a1
          have e2 : setT (sofI v) w = 2 := by
            unfold setT
            rw [if_neg es.2, if_pos a2]
          have e3 : setZ (sofI v) w z = z := by
            unfold setZ
            rw [if_neg es.2, if_pos a2]
          rw [e2, e3] at d1
          exact Or.inl ⟨a1, dR_0 (by rw [d1]; show ¬ upd G 0 2 0 = 0; rw [pk_us]; decide), by rw [d1]⟩
        · have a2 := fit_w a1
          have e2 : setT (sofI v) w = 0 := by
            unfold setT
            rw [if_neg es.2, if_neg a2]
          have e3 : setZ (sofI v) w z = upd z (sofI v).toNatClampNeg w := by
            unfold setZ
            rw [if_neg es.2, if_neg a2]
          rw [e2, e3] at d1
          exact Or.inr ⟨a1, dR_1 (by rw [d1]; show upd G 0 0 0 = 0; exact pk_us), by rw [d1]; exact RLs_set h a1⟩
theorem it_of {G G' : Nat → Int32} (h : G' 12 = G 12) : itOf G' = itOf G := by unfold itOf; rw [h]
theorem tsG_12 {v : Int32} {G : Nat → Int32} : tsG v G 12 = G 12 := by
  unfold tsG
  split
  · rfl
  · rw [pk_un (by omega), pk_un (by omega), pk_un (by omega), pk_un (by omega)]
theorem rest_12 {v : Int32} {G r : Nat → Int32} : (tkRest v G r).1 12 = G 12 ∧ (tkRest v G r).2.1 = r := by
  have ha := acc_k (v := v) (G := G) (r := r)
  unfold tkRest
  repeat' split
  all_goals first | exact ⟨rfl, rfl⟩ | exact ⟨ha.2.2.2.2.2.1, ha.2.2.2.2.2.2⟩
theorem end_it {i : Nat} {G : Nat → Int32} (h : gOK i G) (hi : i < 51) : itOf (endG G) = itOf G + 1 := by
  have e12 : endG G 12 = nI (itOf G + 1) := by unfold endG; rw [pk_un (by omega), pk_us, h.1, nI_1]
  have h2 := h.2
  show (endG G 12).toNatClampNeg = itOf G + 1
  rw [e12, nI_clamp (by split at h2 <;> omega)]
/-- a character leaves the items that are closed -/
theorem tk_r {v : Int32} {G r : Nat → Int32} {i : Nat} (h : gOK i G) (hi : i < 50) : itOf G ≤ itOf (tkF v G (itOf G) r).1 ∧ ∀ j, j < 2 * itOf G → (tkF v G (itOf G) r).2.1 j = r j := by
  by_cases h8 : G 8 = 0
  · have e : tkF v G (itOf G) r = (tsG v G, r, isI v) := by unfold tkF; rw [if_pos h8]
    rw [e]
    exact ⟨Nat.le_of_eq (it_of tsG_12).symm, fun _ _ => rfl⟩
  · by_cases hv : v = 44
    · by_cases h2 : G 8 = 2
      · rw [tk_2 h2]
        exact ⟨Nat.le_of_eq (it_of rest_12.1).symm, fun _ _ => by rw [rest_12.2]⟩
      · rw [tk_e h8 h2 hv]
        refine ⟨by show itOf G ≤ itOf (endG G); rw [end_it h (by omega)]; omega, fun j hj => ?_⟩
        show endR (itOf G) G r j = r j
        unfold endR
        rw [pk_un (by omega), pk_un (by omega)]
    · rw [tk_n h8 hv]
      exact ⟨Nat.le_of_eq (it_of rest_12.1).symm, fun _ _ => by rw [rest_12.2]⟩
theorem rt_r {t : Nat → Int32} : ∀ (n i : Nat) (G r : Nat → Int32), gOK i G → i + n ≤ 50 → itOf G ≤ itOf (rtL t n i G r).1 ∧ ∀ j, j < 2 * itOf G → (rtL t n i G r).2.1 j = r j := by
  intro n
  induction n with
  | zero => intro i G r _ _; exact ⟨Nat.le_refl _, fun _ _ => rfl⟩
  | succ n ih =>
    intro i G r h hb
    have h1 := tk_OK (v := t i) (r := r) h (by omega)
    obtain ⟨a, b⟩ := tk_r (v := t i) (r := r) h (by omega)
    rw [rtL]
    split
    · exact ⟨a, b⟩
    · obtain ⟨c, d⟩ := ih (i + 1) _ (tkF (t i) G (itOf G) r).2.1 h1 (by omega)
      exact ⟨Nat.le_trans a c, fun j hj => (d j (by omega)).trans (b j hj)⟩
theorem ply_0 {ln : Int32} {cd : Nat → Int32} {n i : Nat} {c le nu : Int32} {g : Nat → Int32} {t : QS × HS} : plyL ln cd n i 0 c le nu g t = (c, g, t) := by
  cases n with
  | zero => rw [plyL]
  | succ n => rw [plyL, if_pos rfl]
theorem plX_in {L i : Nat} {cd : Nat → Int32} (h : i < L) (hL : L ≤ 50) : plX (nI L) cd i = cd i := by
  unfold plX
  rw [if_neg (nI_ge (a := i) (b := L) h (by omega))]
theorem plX_end {L : Nat} {cd : Nat → Int32} : plX (nI L) cd L = 44 := by
  unfold plX
  rw [if_pos (Int32.le_refl _)]
theorem posI_1 {v w : Int32} {z : Nat → Int32} (h : ¬ posI v w z = 0) : posI v w z = 1 := (posI_01 v w z).resolve_left h
theorem ply_eq {t : Nat → Int32} {L : Nat} (hL : L ≤ 50) : ∀ (n i : Nat) (s : Int32) (G r : Nat → Int32), i + n = L → KS s G → gOK i G → (rtL t n i G r).2.2 = nI L → ((rtL t n i G r).1 8 = 1 ∨ (rtL t n i G r).1 8 = 3) →
    ∀ (le nu : Int32) (g : Nat → Int32) (x : QS × HS) (z Ge : Nat → Int32), (G 8 = 0 → nu = 0) → (¬ G 8 = 0 → le = G 9 ∧ nu = G 10) → RLs g x z →
    (plyL (nI L) t (n + 1) i 1 (nI (itOf G)) le nu g x).1 = (plL (plR (rtL t n i G r).1 (rtL t n i G r).2.1) (itOf (rtL t n i G r).1 + 1 - itOf G) (itOf G) z Ge).2.2 ∧
    RLs (plyL (nI L) t (n + 1) i 1 (nI (itOf G)) le nu g x).2.1 (plyL (nI L) t (n + 1) i 1 (nI (itOf G)) le nu g x).2.2 (plL (plR (rtL t n i G r).1 (rtL t n i G r).2.1) (itOf (rtL t n i G r).1 + 1 - itOf G) (itOf G) z Ge).1 := by
  intro n
  induction n with
  | zero =>
    intro i s G r hi hK hG _ h8 le nu g x z Ge hn0 hn1 hR
    have e1 : rtL t 0 i G r = (G, r, nI i) := by rw [rtL]
    rw [e1] at h8 ⊢
    dsimp only at h8 ⊢
    have n8 : ¬ G 8 = 0 := by rcases h8 with h | h <;> rw [h] <;> decide
    obtain ⟨rfl, rfl⟩ := hn1 n8
    have hi9 : ¬ isI (G 9) = 0 := by
      rcases hK with h | h
      · exact absurd h.1 n8
      · exact h.2
    have r0 : plR G r (2 * itOf G) = G 9 := by
      unfold plR endR
      rw [it_of (G := G) (G' := upd G 0 0) (pk_un (by omega)), pk_un (by omega), pk_us, pk_un (by omega)]
    have r1 : plR G r (2 * itOf G + 1) = G 10 := by
      unfold plR endR
      rw [it_of (G := G) (G' := upd G 0 0) (pk_un (by omega)), pk_us, pk_un (by omega)]
    have hi2 : i = L := by omega
    subst hi2
    rw [show itOf G + 1 - itOf G = 0 + 1 by omega, plL, r0, r1, plyL, if_neg (show ¬ (1 : Int32) = 0 by decide), plX_end, if_pos rfl]
    rcases does_eq (v := G 9) (w := G 10) (G := Ge) hR hi9 with ⟨a1, a2, a3⟩ | ⟨a1, a2, a3⟩
    · rw [if_pos a1, if_pos a2, a1, ply_0, a3]
      exact ⟨rfl, hR⟩
    · rw [if_neg a1, if_neg (by rw [a2]; decide), plyL, plL, nI_1]
      exact ⟨rfl, a3⟩
  | succ n ih =>
    intro i s G r hi hK hG hend h8 le nu g x z Ge hn0 hn1 hR
    have hiL : i < L := by omega
    have hx : plX (nI L) t i = t i := plX_in hiL hL
    have h1 := tk_OK (v := t i) (r := r) hG (by omega)
    rcases tk_sa (v := t i) (it := itOf G) (r := r) hK with ⟨a1, -⟩ | ⟨a1, -, a3⟩
    · exfalso
      rw [rtL, if_pos a1] at hend
      have := (nI_eq (a := i) (b := L) (by omega) (by omega)).mp hend
      omega
    have er : rtL t (n + 1) i G r = rtL t n (i + 1) (tkF (t i) G (itOf G) r).1 (tkF (t i) G (itOf G) r).2.1 := by
      rw [rtL, if_neg (by rw [a1]; decide)]
    rw [er] at hend h8 ⊢
    have key := ih (i + 1) _ _ (tkF (t i) G (itOf G) r).2.1 (by omega) a3 h1 hend h8
    rw [plyL, if_neg (show ¬ (1 : Int32) = 0 by decide), hx]
    by_cases hv : t i = 44
    · rw [if_pos hv]
      have n8 : ¬ G 8 = 0 := fun q => by
        have e : (tkF (t i) G (itOf G) r).2.2 = isI (t i) := by unfold tkF; rw [if_pos q]
        rw [e, hv] at a1
        exact absurd a1 (by decide)
      have n82 : ¬ G 8 = 2 := fun q => by
        rw [tk_2 q, rest_no (Or.inl (by rw [hv]; decide))] at a1
        exact absurd (show (0 : Int32) = 1 from a1) (by decide)
      have ee : tkF (t i) G (itOf G) r = (endG G, endR (itOf G) G r, 1) := tk_e n8 n82 hv
      rw [ee] at key h1 ⊢
      dsimp only at key h1 ⊢
      obtain ⟨rfl, rfl⟩ := hn1 n8
      have hi9 : ¬ isI (G 9) = 0 := by
        rcases hK with h | h
        · exact absurd h.1 n8
        · exact h.2
      have eit := end_it hG (by omega)
      obtain ⟨b1, b2⟩ := rt_r (t := t) n (i + 1) (endG G) (endR (itOf G) G r) h1 (by omega)
      rw [eit] at key b1 b2
      generalize rtL t n (i + 1) (endG G) (endR (itOf G) G r) = u at key b1 b2 ⊢
      have p0 : plR u.1 u.2.1 (2 * itOf G) = G 9 := by
        unfold plR endR
        rw [it_of (G := u.1) (G' := upd u.1 0 0) (pk_un (by omega)), pk_un (by omega), pk_un (by omega), b2 _ (by omega)]
        unfold endR
        rw [pk_un (by omega), pk_us]
      have p1 : plR u.1 u.2.1 (2 * itOf G + 1) = G 10 := by
        unfold plR endR
        rw [it_of (G := u.1) (G' := upd u.1 0 0) (pk_un (by omega)), pk_un (by omega), pk_un (by omega), b2 _ (by omega)]
        unfold endR
        rw [pk_us]
      rw [show itOf u.1 + 1 - itOf G = (itOf u.1 + 1 - (itOf G + 1)) + 1 by omega, plL, p0, p1]
      rcases does_eq (v := G 9) (w := G 10) (G := Ge) hR hi9 with ⟨c1, c2, c3⟩ | ⟨c1, c2, c3⟩
      · rw [if_pos c1, if_pos c2, c1, ply_0, c3]
        exact ⟨rfl, hR⟩
      · rw [if_neg c1, if_neg (by rw [c2]; decide), posI_1 c1, nI_1]
        exact key _ 0 _ _ _ _ (fun _ => rfl) (fun q => absurd end_8 q) c3
    · rw [if_neg hv]
      by_cases h8g : G 8 = 0
      · have ee : tkF (t i) G (itOf G) r = (tsG (t i) G, r, isI (t i)) := by unfold tkF; rw [if_pos h8g]
        rw [ee] at key a1 ⊢
        dsimp only at key a1 ⊢
        have hi : ¬ isI (t i) = 0 := by rw [a1]; decide
        have nd : inRg (t i) 48 57 = 0 := by
          rcases isI_of hi with (q | q) | q | q | q | q | q <;> rw [q] <;> decide
        have e9 : tsG (t i) G 9 = t i := by unfold tsG; rw [if_neg hi, pk_un (by omega), pk_un (by omega), pk_un (by omega), pk_us]
        have e10 : tsG (t i) G 10 = 0 := by unfold tsG; rw [if_neg hi, pk_un (by omega), pk_un (by omega), pk_us]
        have en : nu = 0 := hn0 h8g
        rw [if_pos nd]
        rw [it_of (G := G) (G' := tsG (t i) G) tsG_12] at key
        exact key _ nu _ _ _ _ (fun _ => en) (fun _ => ⟨e9.symm, by rw [e10, en]⟩) hR
      · have ee := tk_n (r := r) (it := itOf G) h8g hv
        rw [ee] at key a1 ⊢
        have nd : ¬ inRg (t i) 48 57 = 0 := fun q => by
          rw [rest_no (Or.inl q)] at a1
          exact absurd (show (0 : Int32) = 1 from a1) (by decide)
        have ea : tkRest (t i) G r = tkAcc (t i) G r := by
          unfold tkRest at a1 ⊢
          rw [if_neg nd] at a1 ⊢
          repeat' split at a1
          all_goals first | exact absurd a1 (by decide) | skip
          all_goals simp_all
        rw [ea] at key ⊢
        obtain ⟨k8, k10, -, k9, -, k12, -⟩ := acc_k (v := t i) (G := G) (r := r)
        obtain ⟨rfl, rfl⟩ := hn1 h8g
        rw [if_neg nd]
        rw [it_of (G := G) (G' := (tkAcc (t i) G r).1) k12] at key
        exact key _ _ _ _ _ _ (fun q => by rw [k8] at q; exact absurd q (by decide)) (fun _ => ⟨k9.symm, k10.symm⟩) hR
