/-! What a call of the law does to both, whichever way it goes. -/
abbrev wX (E : EE) (Xp : Nat) (Bp Tp Cp Rp : Nat → Nat) (sz nw : Int32) (pf g z : Nat → Int32) (lo up pk : Int32) (g2 z2 : Nat → Int32) (lo2 up2 pk2 ln : Int32) (cd : Nat → Int32) : va_W := wO Xp Bp Tp Cp Rp ++ (wH E Cp sz nw pf ++ (wP E Bp g z lo up pk ++ (wP E Tp g2 z2 lo2 up2 pk2 ++ (wR E Rp ln cd))))
/-- the world of the law's loop: the class's cells, the row 'out', the reference's cells; the class's numbers are the reference's -/
def LV (E : EE) (cL : ClassId) (Xp o : Nat) (Bp Tp Cp Rp A : Nat → Nat) (w : va_W) : Prop :=
  ∃ (sz nw : Int32) (pf g zc : Nat → Int32) (lo up pk : Int32) (g2 z2 : Nat → Int32) (lo2 up2 pk2 : Int32) (cd G z a r : Nat → Int32) (h : Int64) (f : Nat → Int64) (L : Nat),
    w = (wX E Xp Bp Tp Cp Rp sz nw pf g zc lo up pk g2 z2 lo2 up2 pk2 (nI L) cd ++ [(o, cO cL f)]) ++ wM E A G z a cd r h ∧ RLs g ((zc, lo, up, pk), (sz, nw, pf)) z ∧ L ≤ 50 ∧ G 3 = nI L
def Alt (l : Launch) (E : EE) (cL : ClassId) (T0 : Nat → Nat) (Xp o : Nat) (Bp Tp Cp Rp A : Nat → Nat) (wx : va_W) (f : Nat → Int64) (wm : va_W) (y : MethodName) (ws : List Cond) (yM : MethodName) (wsM : List Cond) (frM loM : Nat) (vs : List Value) : Prop :=
  ∃ (wx1 : va_W) (f1 : Nat → Int64) (k b : Int32) (G1 z1 a1 t1 r1 : Nat → Int32) (h1 : Int64),
    GL l y ws E cL T0 (wx ++ [(o, cO cL f)]) (.ref Xp :: (vs ++ [.ref o])) (wx1 ++ [(o, cO cL f1)]) k ∧ GM l yM wsM frM loM E wm (.ref (A 0) :: vs) (wM E A G1 z1 a1 t1 r1 h1) (some (.int b)) ∧ G1 0 = k ∧ (k = 0 → f1 0 = b.toInt64) ∧ LV E cL Xp o Bp Tp Cp Rp A ((wx1 ++ [(o, cO cL f1)]) ++ wM E A G1 z1 a1 t1 r1 h1)
theorem LV_mk {E : EE} {cL : ClassId} {Xp o : Nat} {Bp Tp Cp Rp A : Nat → Nat} {sz nw : Int32} {pf g zc z : Nat → Int32} {lo up pk : Int32} {g2 z2 : Nat → Int32} {lo2 up2 pk2 : Int32} {cd G a r : Nat → Int32} {h : Int64} {f : Nat → Int64} {L : Nat} (hR : RLs g ((zc, lo, up, pk), (sz, nw, pf)) z) (hL : L ≤ 50) (hG : G 3 = nI L) :
    LV E cL Xp o Bp Tp Cp Rp A ((wX E Xp Bp Tp Cp Rp sz nw pf g zc lo up pk g2 z2 lo2 up2 pk2 (nI L) cd ++ [(o, cO cL f)]) ++ wM E A G z a cd r h) :=
  ⟨sz, nw, pf, g, zc, lo, up, pk, g2, z2, lo2, up2, pk2, cd, G, z, a, r, h, f, L, rfl, hR, hL, hG⟩
/-- the class's numbers may be written as the reference's -/
theorem RLs_self {g : Nat → Int32} {t : QS × HS} {z : Nat → Int32} (h : RLs g t z) : RLs g ((z, t.1.2), t.2) z := ⟨h.1, h.2.1, ag_rfl, h.2.2.2⟩
theorem wP_ag {E : EE} {B : Nat → Nat} {g y z : Nat → Int32} {l u q : Int32} (h : ag y z) : wP E B g y l u q = wP E B g z l u q :=
  wP_congr (fun i hi => (h i (by have := plI_lt hi; omega)).symm) (fun i h1 h2 => (h i (by omega)).symm)
section ALT
variable {l : Launch} {E : EE} {cL : ClassId} {T0 : Nat → Nat} {Xp o : Nat} {Bp Tp Cp Rp A : Nat → Nat} {sz nw : Int32} {pf g z : Nat → Int32} {lo up pk : Int32} {g2 z2 : Nat → Int32} {lo2 up2 pk2 : Int32} {cd G a r : Nat → Int32} {h : Int64} {f : Nat → Int64} {L : Nat}
theorem alt_begin (hst : l.stackTraces = false) (hR : RLs g ((z, lo, up, pk), (sz, nw, pf)) z) (hL : L ≤ 50) (hG : G 3 = nI L) (v1 : Int32) : Alt l E cL T0 Xp o Bp Tp Cp Rp A (wX E Xp Bp Tp Cp Rp sz nw pf g z lo up pk g2 z2 lo2 up2 pk2 (nI L) cd) f (wM E A G z a cd r h) yL_begin wsL_begin yX5_begin wsX5_begin 2 42 [.int v1] := by
  have hm := c_X5_begin l E A G z a cd r h v1
  by_cases hv : inRg v1 1 4 = 0
  · simp only [if_pos hv] at hm
    exact ⟨_, _, _, _, _, _, _, _, _, _, wt_begin_IAE l E cL T0 _ Xp o _ f v1 rfl (t_X4_begin l hst E T0 Xp Cp sz nw pf Bp g z lo up pk Tp g2 z2 lo2 up2 pk2 Rp (nI L) cd v1 hv), hm, pk_us, fun q => absurd q (by decide), LV_mk hR hL (by rw [pk_un (by omega)]; exact hG)⟩
  · simp only [if_neg hv] at hm
    have hq := inRg_ok hv
    refine ⟨_, _, _, _, _, _, _, _, _, _, wg_begin l E cL T0 _ Xp o _ f v1 _ _ rfl (c_X4_begin l E T0 Xp Cp sz nw pf Bp g z lo up pk Tp g2 z2 lo2 up2 pk2 Rp (nI L) cd v1 hq.1 hq.2), hm, pk_us, fun _ => pk_uLs, ?_⟩
    rw [wP_fresh (z := z)]
    exact LV_mk (RLs_fresh hv (fun k hk => cpy15 hk)) hL (by rw [pk_un (by omega)]; exact hG)
theorem alt_set (hst : l.stackTraces = false) (hR : RLs g ((z, lo, up, pk), (sz, nw, pf)) z) (hL : L ≤ 50) (hG : G 3 = nI L) (v1 v2 : Int32) : Alt l E cL T0 Xp o Bp Tp Cp Rp A (wX E Xp Bp Tp Cp Rp sz nw pf g z lo up pk g2 z2 lo2 up2 pk2 (nI L) cd) f (wM E A G z a cd r h) yL_set wsL_set yX5_set wsX5_set 2 42 [.int v1, .int v2] := by
  have hm := c_X5_set l E A G z a cd r h v1 v2
  by_cases hv : inRg v1 0 14 = 0
  · simp only [if_pos hv] at hm
    exact ⟨_, _, _, _, _, _, _, _, _, _, wt_set_IOE l E cL T0 _ Xp o _ f v1 v2 rfl (t_X4_set1 l hst E T0 Xp Cp sz nw pf Bp g z lo up pk Tp g2 z2 lo2 up2 pk2 Rp (nI L) cd v1 v2 hv), hm, pk_us, fun q => absurd q (by decide), LV_mk hR hL (by rw [pk_un (by omega)]; exact hG)⟩
  · simp only [if_neg hv] at hm
    by_cases hw : inRg v2 (lowT v1.toNatClampNeg) (highT v1.toNatClampNeg) = 0
    · simp only [if_pos hw] at hm
      have hf : fitI v1 v2 = 0 := by
        unfold fitI
        rw [if_neg hv]
        exact hw
      exact ⟨_, _, _, _, _, _, _, _, _, _, wt_set_IAE l E cL T0 _ Xp o _ f v1 v2 rfl (t_X4_set2 l hst E T0 Xp Cp sz nw pf Bp g z lo up pk Tp g2 z2 lo2 up2 pk2 Rp (nI L) cd v1 v2 hv hf), hm, pk_us, fun q => absurd q (by decide), LV_mk hR hL (by rw [pk_un (by omega)]; exact hG)⟩
    · simp only [if_neg hw] at hm
      have hf : ¬ fitI v1 v2 = 0 := by
        unfold fitI
        rw [if_neg hv]
        exact hw
      exact ⟨_, _, _, _, _, _, _, _, _, _, wg_set l E cL T0 _ Xp o _ f v1 v2 _ _ rfl (c_X4_set l E T0 Xp Cp sz nw pf Bp g z lo up pk Tp g2 z2 lo2 up2 pk2 Rp (nI L) cd v1 v2 hf hR.2.1), hm, pk_us, fun _ => pk_uLs, LV_mk (RLs_set hR hf) hL (by rw [pk_un (by omega)]; exact hG)⟩
theorem alt_setting (hst : l.stackTraces = false) (hR : RLs g ((z, lo, up, pk), (sz, nw, pf)) z) (hL : L ≤ 50) (hG : G 3 = nI L) (v1 : Int32) : Alt l E cL T0 Xp o Bp Tp Cp Rp A (wX E Xp Bp Tp Cp Rp sz nw pf g z lo up pk g2 z2 lo2 up2 pk2 (nI L) cd) f (wM E A G z a cd r h) yL_setting wsL_setting yX5_setting wsX5_setting 2 42 [.int v1] := by
  have hm := c_X5_setting l E A G z a cd r h v1
  by_cases hv : inRg v1 0 14 = 0
  · simp only [if_pos hv] at hm
    exact ⟨_, _, _, _, _, _, _, _, _, _, wt_setting_IOE l E cL T0 _ Xp o _ f v1 rfl (t_X4_setting l hst E T0 Xp Cp sz nw pf Bp g z lo up pk Tp g2 z2 lo2 up2 pk2 Rp (nI L) cd v1 hv), hm, pk_us, fun q => absurd q (by decide), LV_mk hR hL (by rw [pk_un (by omega)]; exact hG)⟩
  · simp only [if_neg hv] at hm
    exact ⟨_, _, _, _, _, _, _, _, _, _, wg_setting l E cL T0 _ Xp o _ f v1 _ _ rfl (c_X4_setting l E Xp Cp sz nw pf Bp g z lo up pk Tp g2 z2 lo2 up2 pk2 Rp (nI L) cd v1 hv hR.2.1), hm, pk_us, fun _ => pk_uLs, LV_mk hR hL (by rw [pk_un (by omega)]; exact hG)⟩
theorem alt_start (hst : l.stackTraces = false) (hR : RLs g ((z, lo, up, pk), (sz, nw, pf)) z) (hL : L ≤ 50) (hG : G 3 = nI L) : Alt l E cL T0 Xp o Bp Tp Cp Rp A (wX E Xp Bp Tp Cp Rp sz nw pf g z lo up pk g2 z2 lo2 up2 pk2 (nI L) cd) f (wM E A G z a cd r h) yL_start wsL_start yX5_start wsX5_start 1 21 [] := by
  have hm := c_X5_start l E A G z a cd r h hR.1.1
  by_cases hv : runsI z = 0
  · simp only [if_pos hv] at hm
    exact ⟨_, _, _, _, _, _, _, _, _, _, wg_start l E cL T0 _ Xp o _ f _ _ rfl (c_X4_start l E Xp Cp sz nw pf Bp g z lo up pk Tp g2 z2 lo2 up2 pk2 Rp (nI L) cd hv hR.1.1 hR.1.2.1), hm, pk_us, fun _ => pk_uLs, LV_mk (RLs_start hR) hL (by rw [pk_un (by omega)]; exact hG)⟩
  · simp only [if_neg hv] at hm
    exact ⟨_, _, _, _, _, _, _, _, _, _, wt_start_ISE l E cL T0 _ Xp o _ f rfl (t_X4_start l hst E T0 Xp Cp sz nw pf Bp g z lo up pk Tp g2 z2 lo2 up2 pk2 Rp (nI L) cd hv), hm, pk_us, fun q => absurd q (by decide), LV_mk hR hL (by rw [pk_un (by omega)]; exact hG)⟩
theorem alt_run (hst : l.stackTraces = false) (hR : RLs g ((z, lo, up, pk), (sz, nw, pf)) z) (hL : L ≤ 50) (hG : G 3 = nI L) (v1 : Int32) : Alt l E cL T0 Xp o Bp Tp Cp Rp A (wX E Xp Bp Tp Cp Rp sz nw pf g z lo up pk g2 z2 lo2 up2 pk2 (nI L) cd) f (wM E A G z a cd r h) yL_run wsL_run yX5_run wsX5_run 5 118 [.int v1] := by
  have hm := c_X5_run l E A G z a cd r h v1 hR.1.1
  by_cases hv : inRg v1 1 200 = 0
  · have d2 : runF v1 z G = (z, upd G 0 1) := by unfold runF; rw [if_pos hv]
    rw [d2] at hm
    dsimp only at hm
    exact ⟨_, _, _, _, _, _, _, _, _, _, wt_run_IAE l E cL T0 _ Xp o _ f v1 rfl (t_X4_run1 l hst E T0 Xp Cp sz nw pf Bp g z lo up pk Tp g2 z2 lo2 up2 pk2 Rp (nI L) cd v1 hv), hm, pk_us, fun q => absurd q (by decide), LV_mk hR hL (by rw [pk_un (by omega)]; exact hG)⟩
  · by_cases hw : z 24 + v1 ≤ 100000
    · have d2 : runF v1 z G = runL v1.toNatClampNeg z (layE (upd G 0 0)) := by unfold runF; rw [if_neg hv, if_pos hw]
      have d3 : runR v1 z G = (runL v1.toNatClampNeg z (layE (upd G 0 0))).1 17 := by unfold runR; rw [if_neg hv, if_pos hw, d2]
      have m1 : ¬ romI v1 z = 0 := by unfold romI; rw [if_neg (Int32.not_lt.mpr hw)]; decide
      rw [d2, d3] at hm
      obtain ⟨e1, e2, -⟩ := inRg_ix1 (n := 200) (by decide) hv
      have hM := c_X4_run l E Xp Cp sz nw pf Bp g z lo up pk Tp g2 z2 lo2 up2 pk2 Rp (nI L) cd v1.toNatClampNeg e2 (by rw [e1]; exact hv) (by rw [e1]; exact m1) hR.2.1 hR.1.1 hR.1.2.1 hR.2.2.2.2.2.1
      rw [e1] at hM
      have hr := RL_run0 (n := v1.toNatClampNeg) (G := upd G 0 0) hR
      have g0 : (runL v1.toNatClampNeg z (layE (upd G 0 0))).2 0 = 0 := by rw [runL_G (by omega) (by omega) (by omega), layE_k (by omega) (by omega) (by omega), pk_us]
      have g3 : (runL v1.toNatClampNeg z (layE (upd G 0 0))).2 3 = nI L := by rw [runL_G (by omega) (by omega) (by omega), layE_k (by omega) (by omega) (by omega), pk_un (by omega)]; exact hG
      generalize runL v1.toNatClampNeg z (layE (upd G 0 0)) = U at hm hr g0 g3
      generalize pcsL v1.toNatClampNeg ((z, lo, up, pk), (sz, nw, pf)) = P at hM hr
      obtain ⟨⟨zc, l3, u3, q3⟩, s3, n3, f3⟩ := P
      dsimp only at hM
      refine ⟨_, _, _, _, _, _, _, _, _, _, wg_run l E cL T0 _ Xp o _ f v1 _ _ rfl hM, hm, g0, fun _ => ?_, LV_mk hr hL g3⟩
      have e17 : zc 17 = U.1 17 := hr.2.2.1 17 (by omega)
      rw [pk_uLs, e17]
    · have d2 : runF v1 z G = (z, upd G 0 2) := by unfold runF; rw [if_neg hv, if_neg hw]
      have m1 : romI v1 z = 0 := by unfold romI; rw [if_pos (Int32.not_le.mp hw)]
      rw [d2] at hm
      dsimp only at hm
      exact ⟨_, _, _, _, _, _, _, _, _, _, wt_run_ISE l E cL T0 _ Xp o _ f v1 rfl (t_X4_run2 l hst E T0 Xp Cp sz nw pf Bp g z lo up pk Tp g2 z2 lo2 up2 pk2 Rp (nI L) cd v1 hv m1), hm, pk_us, fun q => absurd q (by decide), LV_mk hR hL (by rw [pk_un (by omega)]; exact hG)⟩
theorem alt_append (hst : l.stackTraces = false) (hR : RLs g ((z, lo, up, pk), (sz, nw, pf)) z) (hL : L ≤ 50) (hG : G 3 = nI L) (v1 : Int32) : Alt l E cL T0 Xp o Bp Tp Cp Rp A (wX E Xp Bp Tp Cp Rp sz nw pf g z lo up pk g2 z2 lo2 up2 pk2 (nI L) cd) f (wM E A G z a cd r h) yL_append wsL_append yX5_append wsX5_append 1 22 [.int v1] := by
  have hm := c_X5_append l E A G z a cd r h v1 L hG hL
  by_cases hv : inRg v1 33 126 = 0
  · simp only [if_pos hv] at hm
    exact ⟨_, _, _, _, _, _, _, _, _, _, wt_append_IAE l E cL T0 _ Xp o _ f v1 rfl (t_X4_append1 l hst E T0 Xp Cp sz nw pf Bp g z lo up pk Tp g2 z2 lo2 up2 pk2 Rp (nI L) cd v1 hv), hm, pk_us, fun q => absurd q (by decide), LV_mk hR hL (by rw [pk_un (by omega)]; exact hG)⟩
  · simp only [if_neg hv] at hm
    by_cases hw : L = 50
    · have hg : G 3 = 50 := by rw [hG, hw]; rfl
      simp only [if_pos hg] at hm
      exact ⟨_, _, _, _, _, _, _, _, _, _, wt_append_ISE l E cL T0 _ Xp o _ f v1 rfl (t_X4_append2 l hst E T0 Xp Cp sz nw pf Bp g z lo up pk Tp g2 z2 lo2 up2 pk2 Rp (nI L) cd v1 L hv rfl hw), hm, pk_us, fun q => absurd q (by decide), LV_mk hR hL (by rw [pk_un (by omega)]; exact hG)⟩
    · have hg : ¬ G 3 = 50 := fun q => by
        rw [hG] at q
        exact hw ((nI_eq (a := L) (b := 50) (by omega) (by omega)).mp q)
      simp only [if_neg hg] at hm
      have hq := inRg_ok hv
      have hM := c_X4_append l E Xp Cp sz nw pf Bp g z lo up pk Tp g2 z2 lo2 up2 pk2 Rp (nI L) cd v1 L hq.1 hq.2 rfl (by omega)
      rw [nI_1] at hM
      rw [hG, nI_1] at hm
      exact ⟨_, _, _, _, _, _, _, _, _, _, wg_append l E cL T0 _ Xp o _ f v1 _ _ rfl hM, hm, by rw [pk_un (by omega), pk_us], fun _ => pk_uLs, LV_mk hR (by omega) pk_us⟩
theorem play_eq (hR : RLs g ((z, lo, up, pk), (sz, nw, pf)) z) (hL : L ≤ 50) (hG : G 3 = nI L) (hc : ¬ icI cd L = 0) :
    (plyL (nI L) cd (L + 1) 0 1 0 0 0 g ((z, lo, up, pk), (sz, nw, pf))).1 = plD cd L z G r ∧ RLs (plyL (nI L) cd (L + 1) 0 1 0 0 0 g ((z, lo, up, pk), (sz, nw, pf))).2.1 (plyL (nI L) cd (L + 1) 0 1 0 0 0 g ((z, lo, up, pk), (sz, nw, pf))).2.2 (plZ cd L z G r) ∧ plGG cd L z G r 0 = 0 ∧ plGG cd L z G r 3 = 0 := by
  have hp : ¬ isPr L (rdF cd L G r) ((rdF cd L G r).1 3) = 0 := fun q => hc ((pr_eq hG hL).mpr q)
  have e1 : plD cd L z G r = (plU z (rdF cd L G r)).2.2 := by unfold plD; rw [if_neg hp]
  have e2 : plZ cd L z G r = (plU z (rdF cd L G r)).1 := by unfold plZ; rw [if_neg hp]
  have e3 : plGG cd L z G r = upd (upd (plU z (rdF cd L G r)).2.1 0 0) 3 0 := by unfold plGG; rw [if_neg hp]
  rw [e1, e2, e3]
  have hrd : rdF cd L G r = rtL cd L 0 (upd (upd G 8 0) 12 0) r := rfl
  rw [rd_3 hL, hG] at hp
  unfold isPr at hp
  rw [hrd] at hp ⊢
  have hend : (rtL cd L 0 (upd (upd G 8 0) 12 0) r).2.2 = nI L := Classical.byContradiction (fun q => hp (if_neg q))
  rw [if_pos hend] at hp
  have h8 : (rtL cd L 0 (upd (upd G 8 0) 12 0) r).1 8 = 1 ∨ (rtL cd L 0 (upd (upd G 8 0) 12 0) r).1 8 = 3 := by
    refine Classical.byContradiction (fun q => hp ?_)
    rw [if_neg (fun e => q (Or.inl e)), if_neg (fun e => q (Or.inr e))]
  have g0 := gOK_0 G
  have it0 : itOf (upd (upd G 8 0) 12 0) = 0 := by unfold itOf; rw [pk_us]; decide
  have hk := (rtL_OK (t := cd) L 0 _ r g0 (by omega)).2.2 (by rw [Nat.zero_add]; exact hend)
  have hk2 := hk.2
  have n8 : ¬ (rtL cd L 0 (upd (upd G 8 0) 12 0) r).1 8 = 0 := by rcases h8 with q | q <;> rw [q] <;> decide
  rw [if_neg n8] at hk2
  have hit := (plG_OK hk.1 (by omega)).2
  have key := ply_eq hL L 0 0 _ r (by omega) (KS_start (G := G)) g0 hend h8 0 0 g ((z, lo, up, pk), (sz, nw, pf)) z (plG (rtL cd L 0 (upd (upd G 8 0) 12 0) r).1) (fun _ => rfl) (fun q => absurd (by rw [pk_un (by omega), pk_us]) q) hR
  rw [it0, Nat.sub_zero, ← hit] at key
  have hu : plU z (rtL cd L 0 (upd (upd G 8 0) 12 0) r) = plL (plR (rtL cd L 0 (upd (upd G 8 0) 12 0) r).1 (rtL cd L 0 (upd (upd G 8 0) 12 0) r).2.1) (itOf (plG (rtL cd L 0 (upd (upd G 8 0) 12 0) r).1)) 0 z (plG (rtL cd L 0 (upd (upd G 8 0) 12 0) r).1) := rfl
  rw [← hu] at key
  exact ⟨key.1, key.2, by rw [pk_un (by omega), pk_us], pk_us⟩
theorem alt_play (hst : l.stackTraces = false) (hR : RLs g ((z, lo, up, pk), (sz, nw, pf)) z) (hL : L ≤ 50) (hG : G 3 = nI L) : Alt l E cL T0 Xp o Bp Tp Cp Rp A (wX E Xp Bp Tp Cp Rp sz nw pf g z lo up pk g2 z2 lo2 up2 pk2 (nI L) cd) f (wM E A G z a cd r h) yL_play wsL_play yX5_play wsX5_play 7 162 [] := by
  have hm := c_X5_play l E A G z a cd r h L hR.1.1 hG hL
  by_cases hv : icI cd L = 0
  · have hp := (pr_eq (r := r) hG hL).mp hv
    have e1 : plD cd L z G r = 0 := by unfold plD; rw [if_pos hp]
    have e2 : plZ cd L z G r = z := by unfold plZ; rw [if_pos hp]
    have e3 : plGG cd L z G r = upd (rdF cd L G r).1 0 1 := by unfold plGG; rw [if_pos hp]
    rw [e1, e2, e3] at hm
    exact ⟨_, _, _, _, _, _, _, _, _, _, wt_play_IAE l E cL T0 _ Xp o _ f rfl (t_X4_play l hst E T0 Xp Cp sz nw pf Bp g z lo up pk Tp g2 z2 lo2 up2 pk2 Rp (nI L) cd L rfl hL hv), hm, pk_us, fun q => absurd q (by decide), LV_mk hR hL (by rw [pk_un (by omega), rd_3 hL]; exact hG)⟩
  · obtain ⟨e1, e2, e3, e4⟩ := play_eq (r := r) hR hL hG hv
    have hM := c_X4_play l E T0 Xp Cp sz nw pf Bp g z lo up pk Tp g2 z2 lo2 up2 pk2 Rp (nI L) cd L rfl hL hv hR.2.1 hR.1.1 hR.1.2.1 hR.2.2.2.2.2.1
    generalize plyL (nI L) cd (L + 1) 0 1 0 0 0 g ((z, lo, up, pk), (sz, nw, pf)) = P at hM e1 e2
    obtain ⟨c3, g3, ⟨zc, l3, u3, q3⟩, s3, n3, f3⟩ := P
    dsimp only at hM e1 e2
    refine ⟨_, _, _, _, _, _, _, _, _, _, wg_play l E cL T0 _ Xp o _ f _ _ rfl hM, hm, e3, fun _ => ?_, LV_mk (L := 0) e2 (by omega) e4⟩
    rw [pk_uLs, e1]
theorem alt_count (hst : l.stackTraces = false) (hR : RLs g ((z, lo, up, pk), (sz, nw, pf)) z) (hL : L ≤ 50) (hG : G 3 = nI L) (v1 : Int32) : Alt l E cL T0 Xp o Bp Tp Cp Rp A (wX E Xp Bp Tp Cp Rp sz nw pf g z lo up pk g2 z2 lo2 up2 pk2 (nI L) cd) f (wM E A G z a cd r h) yL_count wsL_count yX5_count wsX5_count 1 22 [.int v1] := by
  have hm := c_X5_count l E A G z a cd r h v1
  by_cases hv : inRg v1 0 14 = 0
  · simp only [if_pos hv] at hm
    exact ⟨_, _, _, _, _, _, _, _, _, _, wt_count_IAE l E cL T0 _ Xp o _ f v1 rfl (t_X4_count l hst E T0 Xp Cp sz nw pf Bp g z lo up pk Tp g2 z2 lo2 up2 pk2 Rp (nI L) cd v1 hv), hm, pk_us, fun q => absurd q (by decide), LV_mk hR hL (by rw [pk_un (by omega)]; exact hG)⟩
  · simp only [if_neg hv] at hm
    obtain ⟨e1, e2⟩ := inRg_ix (n := 14) (by decide) hv
    have hM := c_X4_count l E Xp Cp sz nw pf Bp g z lo up pk Tp g2 z2 lo2 up2 pk2 Rp (nI L) cd v1.toNatClampNeg hR.1.1 (by omega)
    rw [e1, nuX_eq hR (by omega)] at hM
    exact ⟨_, _, _, _, _, _, _, _, _, _, wg_count l E cL T0 _ Xp o _ f v1 _ _ rfl hM, hm, pk_us, fun _ => pk_uLs, LV_mk hR hL (by rw [pk_un (by omega)]; exact hG)⟩
theorem alt_phase (hst : l.stackTraces = false) (hR : RLs g ((z, lo, up, pk), (sz, nw, pf)) z) (hL : L ≤ 50) (hG : G 3 = nI L) (v1 v2 : Int32) : Alt l E cL T0 Xp o Bp Tp Cp Rp A (wX E Xp Bp Tp Cp Rp sz nw pf g z lo up pk g2 z2 lo2 up2 pk2 (nI L) cd) f (wM E A G z a cd r h) yL_phase wsL_phase yX5_phase wsX5_phase 1 22 [.int v1, .int v2] := by
  have hm := c_X5_phase l E A G z a cd r h v1 v2 hR.1.1
  have hn4 := hR.1.1.2.2.1
  by_cases hv : inRg v1 0 (z 15 - 1) = 0
  · simp only [if_pos hv] at hm
    exact ⟨_, _, _, _, _, _, _, _, _, _, wt_phase_IOE l E cL T0 _ Xp o _ f v1 v2 rfl (t_X4_phase1 l hst E T0 Xp Cp sz nw pf Bp g z lo up pk Tp g2 z2 lo2 up2 pk2 Rp (nI L) cd v1 v2 hR.1.1 hv), hm, pk_us, fun q => absurd q (by decide), LV_mk hR hL (by rw [pk_un (by omega)]; exact hG)⟩
  · simp only [if_neg hv] at hm
    have hv2 := hv
    rw [hR.1.1.1] at hv2
    obtain ⟨e1, e2⟩ := inRg_ixm (K := nOf z) (by omega) hv2
    by_cases hw : inRg v2 0 6 = 0
    · simp only [if_pos hw] at hm
      have hM := t_X4_phase2 l hst E T0 Xp Cp sz nw pf Bp g z lo up pk Tp g2 z2 lo2 up2 pk2 Rp (nI L) cd v1.toNatClampNeg v2 hR.1.1 e2 hw
      rw [e1] at hM
      exact ⟨_, _, _, _, _, _, _, _, _, _, wt_phase_IAE l E cL T0 _ Xp o _ f v1 v2 rfl hM, hm, pk_us, fun q => absurd q (by decide), LV_mk hR hL (by rw [pk_un (by omega)]; exact hG)⟩
    · simp only [if_neg hw] at hm
      obtain ⟨e3, e4⟩ := inRg_ix (n := 6) (by decide) hw
      have hM := c_X4_phase l E Xp Cp sz nw pf Bp g z lo up pk Tp g2 z2 lo2 up2 pk2 Rp (nI L) cd v1.toNatClampNeg v2.toNatClampNeg hR.1.1 e2 e4
      rw [e1, e3] at hM
      exact ⟨_, _, _, _, _, _, _, _, _, _, wg_phase l E cL T0 _ Xp o _ f v1 v2 _ _ rfl hM, hm, pk_us, fun _ => pk_uLs, LV_mk hR hL (by rw [pk_un (by omega)]; exact hG)⟩
theorem alt_record (hst : l.stackTraces = false) (hR : RLs g ((z, lo, up, pk), (sz, nw, pf)) z) (hL : L ≤ 50) (hG : G 3 = nI L) (v1 v2 : Int32) : Alt l E cL T0 Xp o Bp Tp Cp Rp A (wX E Xp Bp Tp Cp Rp sz nw pf g z lo up pk g2 z2 lo2 up2 pk2 (nI L) cd) f (wM E A G z a cd r h) yL_record wsL_record yX5_record_ wsX5_record_ 1 22 [.int v1, .int v2] := by
  obtain ⟨hrk, h31, hrec⟩ := hR.2.2.2.2.2
  dsimp only at hrk h31 hrec
  have hK1 : z 31 = nI sz.toNatClampNeg := h31.trans hrk.2.2.1
  have hK2 := hrk.2.2.2
  have hm := c_X5_record_ l E A G z a cd r h v1 v2 sz.toNatClampNeg hK1 hK2
  by_cases hv : inRg v1 0 (z 31 - 1) = 0
  · simp only [if_pos hv] at hm
    exact ⟨_, _, _, _, _, _, _, _, _, _, wt_record_IOE l E cL T0 _ Xp o _ f v1 v2 rfl (t_X4_record1 l hst E T0 Xp Cp sz nw pf Bp g z lo up pk Tp g2 z2 lo2 up2 pk2 Rp (nI L) cd v1 v2 hrk (by rw [← h31]; exact hv)), hm, pk_us, fun q => absurd q (by decide), LV_mk hR hL (by rw [pk_un (by omega)]; exact hG)⟩
  · simp only [if_neg hv] at hm
    have hv2 := hv
    rw [hK1] at hv2
    obtain ⟨e1, e2⟩ := inRg_ixm (K := sz.toNatClampNeg) (by omega) hv2
    by_cases hw : inRg v2 0 5 = 0
    · simp only [if_pos hw] at hm
      have hM := t_X4_record2 l hst E T0 Xp Cp sz nw pf Bp g z lo up pk Tp g2 z2 lo2 up2 pk2 Rp (nI L) cd v1.toNatClampNeg v2 hrk e2 hw
      rw [e1] at hM
      exact ⟨_, _, _, _, _, _, _, _, _, _, wt_record_IAE l E cL T0 _ Xp o _ f v1 v2 rfl hM, hm, pk_us, fun q => absurd q (by decide), LV_mk hR hL (by rw [pk_un (by omega)]; exact hG)⟩
    · simp only [if_neg hw] at hm
      obtain ⟨e3, e4⟩ := inRg_ix (n := 5) (by decide) hw
      have hM := c_X4_record l E Xp Cp sz nw pf Bp g z lo up pk Tp g2 z2 lo2 up2 pk2 Rp (nI L) cd v1.toNatClampNeg v2.toNatClampNeg hrk e2 e4
      rw [e1, e3, hrec _ _ e2 e4] at hM
      exact ⟨_, _, _, _, _, _, _, _, _, _, wg_record l E cL T0 _ Xp o _ f v1 v2 _ _ rfl hM, hm, pk_us, fun _ => pk_uLs, LV_mk hR hL (by rw [pk_un (by omega)]; exact hG)⟩
theorem alt_ifLoaded (hst : l.stackTraces = false) (hR : RLs g ((z, lo, up, pk), (sz, nw, pf)) z) (hL : L ≤ 50) (hG : G 3 = nI L) (v1 v2 v3 : Int32) : Alt l E cL T0 Xp o Bp Tp Cp Rp A (wX E Xp Bp Tp Cp Rp sz nw pf g z lo up pk g2 z2 lo2 up2 pk2 (nI L) cd) f (wM E A G z a cd r h) yL_ifLoaded wsL_ifLoaded yX5_ifLoaded wsX5_ifLoaded 5 118 [.int v1, .int v2, .int v3] := by
  have hm := c_X5_ifLoaded l E A G z a cd r h v1 v2 v3 hR.1.1
  have hfit : fitI 2 v1 = inRg v1 0 60000 := by
    unfold fitI
    rw [if_neg (by decide)]
    rfl
  by_cases hc : ¬ fitI 2 v1 = 0 ∧ ¬ inRg v2 1 100 = 0 ∧ ¬ inRg v3 0 5 = 0
  · obtain ⟨h1, h2, h3⟩ := hc
    obtain ⟨e1, e2, e3⟩ := inRg_ix1 (n := 100) (by decide) h2
    obtain ⟨e4, e5⟩ := inRg_ix (n := 5) (by decide) h3
    have h1' : ¬ inRg v1 0 60000 = 0 := by rw [← hfit]; exact h1
    have a1 : ilR v1 v2 v3 z G = ilA v3 (ilU v1 v2 z G) := by unfold ilR; rw [if_neg h1', if_neg h2, if_neg h3]
    have a2 : ilG v1 v2 v3 z G = (ilU v1 v2 z G).2 := by unfold ilG; rw [if_neg h1', if_neg h2, if_neg h3]
    have hM := c_X4_ifLoaded l E T0 Xp Cp sz nw pf Bp g z lo up pk Tp g2 z2 lo2 up2 pk2 Rp (nI L) cd v1 v2.toNatClampNeg v3.toNatClampNeg h1 e3 e2 e5 hR.2.1 hR.1.1 hR.1.2.1
    rw [ilX_eq (G := G) hR.1.1 e3 e2 e5, e1, e4] at hM
    rw [a1, a2] at hm
    have g0 : (ilU v1 v2 z G).2 0 = 0 := by unfold ilU; rw [runL_G (by omega) (by omega) (by omega), layE_k (by omega) (by omega) (by omega), pk_us]
    have g3 : (ilU v1 v2 z G).2 3 = nI L := by unfold ilU; rw [runL_G (by omega) (by omega) (by omega), layE_k (by omega) (by omega) (by omega), pk_un (by omega)]; exact hG
    generalize ilU v1 v2 z G = U at hm hM g0 g3
    generalize ilC v2.toNatClampNeg ((upd z 2 v1, lo, up, 0), 40000, 0) = P at hM
    exact ⟨_, _, _, _, _, _, _, _, _, _, wg_ifLoaded l E cL T0 _ Xp o _ f v1 v2 v3 _ _ rfl hM, hm, g0, fun _ => pk_uLs, LV_mk hR hL g3⟩
  · have a2 : ilG v1 v2 v3 z G = upd G 0 1 := by
      unfold ilG
      by_cases h1 : inRg v1 0 60000 = 0
      · rw [if_pos h1]
      · rw [if_neg h1]
        by_cases h2 : inRg v2 1 100 = 0
        · rw [if_pos h2]
        · rw [if_neg h2]
          by_cases h3 : inRg v3 0 5 = 0
          · rw [if_pos h3]
          · exact absurd ⟨by rw [hfit]; exact h1, h2, h3⟩ hc
    rw [a2] at hm
    exact ⟨_, _, _, _, _, _, _, _, _, _, wt_ifLoaded_IAE l E cL T0 _ Xp o _ f v1 v2 v3 rfl (t_X4_ifLoaded l hst E T0 Xp Cp sz nw pf Bp g z lo up pk Tp g2 z2 lo2 up2 pk2 Rp (nI L) cd v1 v2 v3 hc), hm, pk_us, fun q => absurd q (by decide), LV_mk hR hL (by rw [pk_un (by omega)]; exact hG)⟩
theorem alt_settles (hst : l.stackTraces = false) (hR : RLs g ((z, lo, up, pk), (sz, nw, pf)) z) (hL : L ≤ 50) (hG : G 3 = nI L) (v1 : Int32) : Alt l E cL T0 Xp o Bp Tp Cp Rp A (wX E Xp Bp Tp Cp Rp sz nw pf g z lo up pk g2 z2 lo2 up2 pk2 (nI L) cd) f (wM E A G z a cd r h) yL_settles wsL_settles yX5_settles wsX5_settles 6 141 [.int v1] := by
  have hm := c_X5_settles l E A G z a cd r h v1 hR.1.1
  by_cases hv : inRg v1 0 5000 = 0
  · simp only [if_pos hv] at hm
    exact ⟨_, _, _, _, _, _, _, _, _, _, wt_settles_IAE l E cL T0 _ Xp o _ f v1 rfl (t_X4_settles l hst E T0 Xp Cp sz nw pf Bp g z lo up pk Tp g2 z2 lo2 up2 pk2 Rp (nI L) cd v1 hv), hm, pk_us, fun q => absurd q (by decide), LV_mk hR hL (by rw [pk_un (by omega)]; exact hG)⟩
  · simp only [if_neg hv] at hm
    have hq := inRg_ok hv
    have hpk : 0 ≤ pk := by
      have q1 : pk = z 27 := hR.2.2.2.1.2.1
      rw [q1]; exact hR.2.2.2.1.2.2
    have hM := c_X4_settles l E Xp Cp sz nw pf Bp g z lo up pk Tp g2 z2 lo2 up2 pk2 Rp (nI L) cd v1 hq.1 hq.2 hR.2.1 hR.1.1 hR.1.2.1
    rw [stR_eq (G := upd G 0 0) hR.1.1 hpk hq.1 hq.2 hR.2.2.2.2.1] at hM
    have g0 : (stU v1 z (upd G 0 0)).2.2 0 = 0 := by rw [stU_G (by omega) (by omega) (by omega), pk_us]
    have g3 : (stU v1 z (upd G 0 0)).2.2 3 = nI L := by rw [stU_G (by omega) (by omega) (by omega), pk_un (by omega)]; exact hG
    generalize stR v1 z (upd G 0 0) = b at hm hM
    generalize (stU v1 z (upd G 0 0)).2.2 = U at hm g0 g3
    generalize stC v1 (z 1) 202 1 0 (z, lo, up, pk) = P at hM
    exact ⟨_, _, _, _, _, _, _, _, _, _, wg_settles l E cL T0 _ Xp o _ f v1 _ _ rfl hM, hm, g0, fun _ => pk_uLs, LV_mk hR hL g3⟩
theorem glL_G {w : Int32} {z : Nat → Int32} {k : Nat} (h5 : k ≠ 5) (h6 : k ≠ 6) (h7 : k ≠ 7) : ∀ (n : Nat) (a G : Nat → Int32), (glL w z n a G).2.2 k = G k := by
  have e : ∀ (v : Int32) (G : Nat → Int32), (hoU v z G).2 k = G k := fun v G => by
    unfold hoU
    rw [runL_G h5 h6 h7, layE_k h5 h6 h7]
  intro n
  induction n with
  | zero => intro a G; rfl
  | succ n ih =>
    intro a G
    rw [glL]
    split
    · rw [ih, e]
    · exact e _ _
theorem alt_greatestLoad (hst : l.stackTraces = false) (hR : RLs g ((z, lo, up, pk), (sz, nw, pf)) z) (hL : L ≤ 50) (hG : G 3 = nI L) (v1 : Int32) : Alt l E cL T0 Xp o Bp Tp Cp Rp A (wX E Xp Bp Tp Cp Rp sz nw pf g z lo up pk g2 z2 lo2 up2 pk2 (nI L) cd) f (wM E A G z a cd r h) yL_greatestLoad wsL_greatestLoad yX5_greatestLoad wsX5_greatestLoad 6 141 [.int v1] := by
  have hm := c_X5_greatestLoad l E A G z a cd r h v1 hR.1.1
  by_cases hv : inRg v1 0 40000 = 0
  · have a2 : glG v1 z a G = upd G 0 1 := by unfold glG; rw [if_pos hv]
    rw [a2] at hm
    exact ⟨_, _, _, _, _, _, _, _, _, _, wt_greatestLoad_IAE l E cL T0 _ Xp o _ f v1 rfl (t_X4_greatestLoad l hst E T0 Xp Cp sz nw pf Bp g z lo up pk Tp g2 z2 lo2 up2 pk2 Rp (nI L) cd v1 hv), hm, pk_us, fun q => absurd q (by decide), LV_mk hR hL (by rw [pk_un (by omega)]; exact hG)⟩
  · have hq := inRg_ok hv
    have hpk : 0 ≤ pk := by
      have q1 : pk = z 27 := hR.2.2.2.1.2.1
      rw [q1]; exact hR.2.2.2.1.2.2
    have a1 : glR v1 z a G = (if (glL v1 z 41 a (upd G 0 0)).1 < 0 then -1 else (glL v1 z 41 a (upd G 0 0)).1) := by unfold glR glU; rw [if_neg hv]
    have a2 : glG v1 z a G = (glL v1 z 41 a (upd G 0 0)).2.2 := by unfold glG glU; rw [if_neg hv]
    have hM := c_X4_greatestLoad l E Xp Cp sz nw pf Bp g z lo up pk Tp g2 z2 lo2 up2 pk2 Rp (nI L) cd v1 hq.1 hq.2 hR.2.1 hR.1.1 hR.1.2.1
    rw [glC_eq hR.1.1 hpk hq.2 41 (g2, z2, lo2, up2, pk2) a (upd G 0 0) (by omega)] at hM
    rw [a1, a2] at hm
    have g0 : (glL v1 z 41 a (upd G 0 0)).2.2 0 = 0 := by rw [glL_G (by omega) (by omega) (by omega), pk_us]
    have g3 : (glL v1 z 41 a (upd G 0 0)).2.2 3 = nI L := by rw [glL_G (by omega) (by omega) (by omega), pk_un (by omega)]; exact hG
    generalize (if (glL v1 z 41 a (upd G 0 0)).1 < 0 then -1 else (glL v1 z 41 a (upd G 0 0)).1) = b at hm hM
    generalize (glL v1 z 41 a (upd G 0 0)).2.2 = U at hm g0 g3
    generalize glC v1 (z, lo, up, pk) g 41 (g2, z2, lo2, up2, pk2) = P at hM
    exact ⟨_, _, _, _, _, _, _, _, _, _, wg_greatestLoad l E cL T0 _ Xp o _ f v1 _ _ rfl hM, hm, g0, fun _ => pk_uLs, LV_mk hR hL g3⟩
end ALT
