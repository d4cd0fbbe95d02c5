/-! The reference's play and its questions that look ahead, as functions. -/
def plL (r : Nat → Int32) : Nat → Nat → (Nat → Int32) → (Nat → Int32) → (Nat → Int32) × (Nat → Int32) × Int32
  | 0, i, z, G => (z, G, nI i)
  | n + 1, i, z, G => if doesR (r (2 * i)) (r (2 * i + 1)) z G = 0 then ((doesF (r (2 * i)) (r (2 * i + 1)) z G).1, (doesF (r (2 * i)) (r (2 * i + 1)) z G).2, nI i) else plL r n (i + 1) (doesF (r (2 * i)) (r (2 * i + 1)) z G).1 (doesF (r (2 * i)) (r (2 * i + 1)) z G).2
/-- whether the text is a program: 1 if it is -/
def isPr (L : Nat) (u : (Nat → Int32) × (Nat → Int32) × Int32) (g3 : Int32) : Int32 := if u.2.2 = g3 then (if u.1 8 = 1 then 1 else (if u.1 8 = 3 then 1 else 0)) else 0
def plG (G : Nat → Int32) : Nat → Int32 := endG (upd G 0 0)
def plR (G r : Nat → Int32) : Nat → Int32 := endR (itOf (upd G 0 0)) (upd G 0 0) r
/-- the items carried out, behind the reading u -/
def plU (z : Nat → Int32) (u : (Nat → Int32) × (Nat → Int32) × Int32) : (Nat → Int32) × (Nat → Int32) × Int32 := plL (plR u.1 u.2.1) (itOf (plG u.1)) 0 z (plG u.1)
def plZ (t : Nat → Int32) (L : Nat) (z G r : Nat → Int32) : Nat → Int32 := if isPr L (rdF t L G r) ((rdF t L G r).1 3) = 0 then z else (plU z (rdF t L G r)).1
def plGG (t : Nat → Int32) (L : Nat) (z G r : Nat → Int32) : Nat → Int32 := if isPr L (rdF t L G r) ((rdF t L G r).1 3) = 0 then upd (rdF t L G r).1 0 1 else upd (upd (plU z (rdF t L G r)).2.1 0 0) 3 0
def plRR (t : Nat → Int32) (L : Nat) (G r : Nat → Int32) : Nat → Int32 := if isPr L (rdF t L G r) ((rdF t L G r).1 3) = 0 then (rdF t L G r).2.1 else plR (rdF t L G r).1 (rdF t L G r).2.1
def plD (t : Nat → Int32) (L : Nat) (z G r : Nat → Int32) : Int32 := if isPr L (rdF t L G r) ((rdF t L G r).1 3) = 0 then 0 else (plU z (rdF t L G r)).2.2
theorem rtL_OK {t : Nat → Int32} : ∀ (n i : Nat) (G r : Nat → Int32), gOK i G → i + n ≤ 50 → gOK (i + n + 1) (rtL t n i G r).1 ∧ (rtL t n i G r).1 3 = G 3 ∧ ((rtL t n i G r).2.2 = nI (i + n) → gOK (i + n) (rtL t n i G r).1) := by
  intro n
  induction n with
  | zero =>
    intro i G r h hb
    exact ⟨gOK_keep h rfl, rfl, fun _ => h⟩
  | succ n ih =>
    intro i G r h hb
    have h1 := tk_OK (v := t i) (r := r) h (by omega)
    unfold rtL
    split
    · refine ⟨?_, tkF_3 _ _ _ _, ?_⟩
      · refine ⟨h1.1, Nat.le_trans h1.2 (by omega)⟩
      · intro e
        dsimp only at e
        exact absurd ((nI_eq (by omega) (by omega)).mp e) (by omega)
    · obtain ⟨a, b, c⟩ := ih (i + 1) _ (tkF (t i) G (itOf G) r).2.1 h1 (by omega)
      rw [show i + (n + 1) = i + 1 + n by omega]
      exact ⟨a, b.trans (tkF_3 _ _ _ _), c⟩
def ilU (v w : Int32) (z G : Nat → Int32) : (Nat → Int32) × (Nat → Int32) := runL w.toNatClampNeg (upd z 2 v) (layE (upd G 0 0))
def ilA (x : Int32) (u : (Nat → Int32) × (Nat → Int32)) : Int32 := if x = 0 then u.1 17 else (if x = 1 then u.2 5 else (if x = 2 then u.2 6 else (if x = 3 then u.1 20 else (if x = 4 then u.1 16 else u.2 7))))
def ilR (v w x : Int32) (z G : Nat → Int32) : Int32 := if inRg v 0 60000 = 0 then 0 else (if inRg w 1 100 = 0 then 0 else (if inRg x 0 5 = 0 then 0 else ilA x (ilU v w z G)))
def ilG (v w x : Int32) (z G : Nat → Int32) : Nat → Int32 := if inRg v 0 60000 = 0 then upd G 0 1 else (if inRg w 1 100 = 0 then upd G 0 1 else (if inRg x 0 5 = 0 then upd G 0 1 else (ilU v w z G).2))
def ilS (v w x : Int32) (z a : Nat → Int32) : Nat → Int32 := if inRg v 0 60000 = 0 then a else (if inRg w 1 100 = 0 then a else (if inRg x 0 5 = 0 then a else kpL z 159 0 a))
def stI (b y : Int32) (z G : Nat → Int32) : Int32 := if inRg ((cycle z G).1 17 - (cycle z G).1 1) (-b) b = 0 then 0 else y + 1
def stL (b : Int32) : Nat → Nat → Int32 → (Nat → Int32) → (Nat → Int32) → Int32 × Int32 × (Nat → Int32)
  | 0, i, y, _, G => (y, nI i, G)
  | n + 1, i, y, z, G => if 3 ≤ y then (y, nI i, G) else stL b n (i + 1) (stI b y z G) (cycle z G).1 (cycle z G).2
def stU (b : Int32) (z G : Nat → Int32) : Int32 × Int32 × (Nat → Int32) := stL b 202 0 0 z (layE G)
def stR (b : Int32) (z G : Nat → Int32) : Int32 := if (stU b z G).1 = 3 then (stU b z G).2.1 - 2 else -1
def hoU (v : Int32) (z G : Nat → Int32) : (Nat → Int32) × (Nat → Int32) := runL 30 (upd z 2 v) (layE G)
def hoR (v w : Int32) (z G : Nat → Int32) : Int32 := if (hoU v z G).2 5 < w then 0 else 1
theorem hoR_01 (v w : Int32) (z G : Nat → Int32) : hoR v w z G = 0 ∨ hoR v w z G = 1 := by
  unfold hoR
  split
  · exact Or.inl rfl
  · exact Or.inr rfl
/-- the loads from 500 (n - 1) down -/
def glL (w : Int32) (z : Nat → Int32) : Nat → (Nat → Int32) → (Nat → Int32) → Int32 × (Nat → Int32) × (Nat → Int32)
  | 0, a, G => (-500, a, G)
  | n + 1, a, G => if hoR (nI (500 * n)) w z G = 0 then glL w z n (kpL z 159 0 a) (hoU (nI (500 * n)) z G).2 else (nI (500 * n), kpL z 159 0 a, (hoU (nI (500 * n)) z G).2)
def glU (w : Int32) (z a G : Nat → Int32) : Int32 × (Nat → Int32) × (Nat → Int32) := glL w z 41 a (upd G 0 0)
def glR (w : Int32) (z a G : Nat → Int32) : Int32 := if inRg w 0 40000 = 0 then 0 else (if (glU w z a G).1 < 0 then -1 else (glU w z a G).1)
def glS (w : Int32) (z a G : Nat → Int32) : Nat → Int32 := if inRg w 0 40000 = 0 then a else (glU w z a G).2.1
def glG (w : Int32) (z a G : Nat → Int32) : Nat → Int32 := if inRg w 0 40000 = 0 then upd G 0 1 else (glU w z a G).2.2
theorem gl_y {n : Nat} (hn : n ≤ 41) {y : Int32} (h : y = nI (500 * (n + 1)) - 500) : y = nI (500 * n) := by
  rw [h, show (500 : Int32) = nI 500 from rfl, pk_sub (by omega), show 500 * (n + 1) - 500 = 500 * n by omega]
theorem gl_s {y : Int32} {n : Nat} (h : y = nI (500 * n)) : y + (-500) = nI (500 * n) - 500 := by
  rw [h, Int32.sub_eq_add_neg]
/-- a hash of numbers -/
def dgL (f : Nat → Int64) : Nat → Nat → Int64 → Int64
  | 0, _, h => h
  | n + 1, i, h => dgL f n (i + 1) (31 * h + f i)
def dgZ (z t : Nat → Int32) (K L : Nat) (x y l : Int32) : Int64 :=
  dgL (fun i => (t i).toInt64) L 0 (31 * (31 * (31 * dgL (fun i => (z (63 + i)).toInt64) (6 * K) 0 (dgL (fun i => (z (35 + i)).toInt64) (7 * nOf z) 0 (dgL (fun i => (z i).toInt64) 15 0 (dgL (fun i => (z (placeT i)).toInt64) 15 0 2017))) + x.toInt64) + y.toInt64) + l.toInt64)
theorem ixa {a b : Nat} : nI a + nI b = nI (a + b) := nI_add a b
