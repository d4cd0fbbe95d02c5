/-! The cases of the law. -/
set_option maxHeartbeats 4000000 in
set_option maxRecDepth 100000 in
theorem lk_begin {p : Program} {l : Launch} {e : Env} {s : State} {m : MethodId} {below : List Frame} {meth : Method} {c : Code} {b L : Nat} {xs : Nat → Int32} {E : EE} {cL : ClassId} {T0 : Nat → Nat} {Xp o : Nat} {Bp Tp Cp Rp A : Nat → Nat} (C : LC p l s m c b L xs E cL T0) (hL : L ≤ 2048) {i : Nat} (hi : i + 4 ≤ L) {w : va_W} {H : Heap} {locs : List Loc} {cells slots : Nat} {ls : Array Slot} {Q : State → Prop} (hV : LV E cL Xp o Bp Tp Cp Rp A w) (hP : va_P E.1 vwCl w H) (hD : va_D (fun q => s.heap.size ≤ q) w) (hS : va_S (fun q => s.heap.size ≤ q) s.heap H locs) (hl : lv_has ls 9 [(4, .int (nI i)), (0, .ref b), (1, .ref Xp), (2, .ref (A 0)), (3, .ref o)]) (hc : cells + 1 ≤ room_1.cells) (hs : slots + 6 ≤ room_1.slots)
    (kk : ∀ (w1 : va_W) (H1 : Heap) (locs1 : List Loc) (ls1 : Array Slot), LV E cL Xp o Bp Tp Cp Rp A w1 → va_P E.1 vwCl w1 H1 → va_D (fun q => s.heap.size ≤ q) w1 → va_S (fun q => s.heap.size ≤ q) s.heap H1 locs1 → lv_has ls1 9 [(4, .int (nI i)), (0, .ref b), (1, .ref Xp), (2, .ref (A 0)), (3, .ref o)] → W p l e room_1 s m #[Value.ref b] below meth c H1 locs1 (cells + 1) (slots + 6) Q (F0 m 999 ls1 [])) : W p l e room_1 s m #[Value.ref b] below meth c H locs cells slots Q (F0 m 128 ls []) := by
  obtain ⟨hx, hb, hml, hown, hts, hXs, hbl, hK, hKL, hN, hX, hst⟩ := C
  obtain ⟨sz, nw, pf, g, lo, up, pk, g2, z2, lo2, up2, pk2, cd, G, z, a, r, h, f, Lb, rfl, hR, hLb, hG⟩ := LV_out hV
  have hA : ∀ q : Nat, s.heap.size ≤ q → (fun q : Nat => s.heap.size ≤ q) q := fun _ h => h
  have hbA : ¬ (fun q : Nat => s.heap.size ≤ q) b := Nat.not_le.mpr hbl
  have hn1 : vp_in (nI i + 1) L := by rw [show (1 : Int32) = nI 1 from rfl, nI_add]; exact vp_in_nI (by omega) (by omega)
  obtain ⟨wx1, f1, k9, b9, G1, z1, a1, t1, r1, h1, hW, hM, hk, hf, hV1⟩ := alt_begin (E := E) (cL := cL) (T0 := T0) (Xp := Xp) (o := o) (Bp := Bp) (Tp := Tp) (Cp := Cp) (Rp := Rp) (A := A) (g2 := g2) (z2 := z2) (lo2 := lo2) (up2 := up2) (pk2 := pk2) (cd := cd) (a := a) (r := r) (h := h) (f := f) hst hR hLb hG (xs (nI i + 1).toNatClampNeg)
  refine lv_aload_n hx hb dL_law_128 rfl (lv_at hl 2 rfl) ?_
  refine lv_aload_n hx hb dL_law_129 rfl (lv_at hl 1 rfl) ?_
  refine lv_iload hx hb dL_law_130 (lv_at hl 0 rfl) ?_
  refine lv_iconst (v := 1) hx hb dL_law_132 (by decide) ?_
  refine lv_iadd hx hb dL_law_133 ?_
  refine va_sld hx hb hXs hbl hbA hS hn1 dL_law_134 ?_
  refine lv_aload_n hx hb dL_law_135 rfl (lv_at hl 4 rfl) ?_
  refine lS (wM E A G z a cd r h) (As := [.ref Xp, .int (xs (nI i + 1).toNatClampNeg), .ref o]) (rest := []) ⟨hx, hb, hml, hown, hts⟩ hW (vx_cwSW 3 hts gL_law_L_begin rfl rfl rfl (by decide +kernel) ⟨Nat.le_of_ble_eq_true rfl, Nat.le_of_ble_eq_true rfl⟩) hP hK hKL hD hN hX hS hA rfl hl.1 rfl (Nat.le_of_ble_eq_true rfl) dL_law_136 ⟨hc, hs⟩ (fun H locs hP hD hS => ?_)
  refine lv_istore (lv' := [(5, .int k9), (4, .int (nI i)), (0, .ref b), (1, .ref Xp), (2, .ref (A 0)), (3, .ref o)]) hx hb dL_law_139 hl (by decide) rfl (fun ls hl => ?_)
  refine lv_aload_n hx hb dL_law_141 rfl (lv_at hl 4 rfl) ?_
  refine lv_aload_n hx hb dL_law_142 rfl (lv_at hl 2 rfl) ?_
  refine lv_iload hx hb dL_law_143 (lv_at hl 1 rfl) ?_
  refine lv_iconst (v := 1) hx hb dL_law_145 (by decide) ?_
  refine lv_iadd hx hb dL_law_146 ?_
  refine va_sld hx hb hXs hbl hbA hS hn1 dL_law_147 ?_
  refine lMi (wx1 ++ [(o, cO cL f1)]) (As := [.int (xs (nI i + 1).toNatClampNeg)]) (rest := []) ⟨hx, hb, hml, hown, hts⟩ hM (cwV 1 hts gL_law_X5_begin rfl rfl rfl (by decide +kernel) ⟨Nat.le_of_ble_eq_true rfl, Nat.le_of_ble_eq_true rfl⟩) (va_recv hK hP (ci := 5) rfl (at_mid _ _ _)) hP hK hD hN hS hA rfl hl.1 rfl (Nat.le_of_ble_eq_true rfl) dL_law_148 ⟨hc, hs⟩ (fun H locs hP hD hS => ?_)
  refine lv_istore (lv' := [(6, .int b9), (5, .int k9), (4, .int (nI i)), (0, .ref b), (1, .ref Xp), (2, .ref (A 0)), (3, .ref o)]) hx hb dL_law_151 hl (by decide) rfl (fun ls hl => ?_)
  refine lv_aload_n hx hb dL_law_153 rfl (lv_at hl 5 rfl) ?_
  refine lMi (wx1 ++ [(o, cO cL f1)]) (As := []) (rest := []) ⟨hx, hb, hml, hown, hts⟩ (c_X5_thrown l E A G1 z1 a1 t1 r1 h1) (cwV 0 hts gL_law_X5_thrown rfl rfl rfl (by decide +kernel) ⟨Nat.le_of_ble_eq_true rfl, Nat.le_of_ble_eq_true rfl⟩) (va_recv hK hP (ci := 5) rfl (at_mid _ _ _)) hP hK hD hN hS hA rfl hl.1 rfl (Nat.le_of_ble_eq_true rfl) dL_law_154 ⟨hc, hs⟩ (fun H locs hP hD hS => ?_)
  refine lv_iload hx hb dL_law_157 (lv_at hl 1 rfl) ?_
  refine lv_icmp_eq (tgt := 164) hx hb dL_law_159 (by decide) (fun _ => ?_) (fun c9 => absurd hk c9)
  refine lv_iload hx hb dL_law_164 (lv_at hl 1 rfl) ?_
  refine lv_if_ne (tgt := 181) hx hb dL_law_166 (by decide) (fun _ => ?_) (fun c8 => ?_)
  · refine lv_goto (tgt := 999) hx hb dL_law_181 (by decide) ?_
    exact kk _ H locs ls hV1 hP hD hS (lv_sub hl [2, 3, 4, 5, 6] rfl)
  · refine lv_aload_n hx hb dL_law_169 rfl (lv_at hl 6 rfl) ?_
    refine lv_iconst (v := 0) hx hb dL_law_170 (by decide) ?_
    refine va_lald hx hb hKL hP wx1.length 0 (at_out _ _ _) rfl (by unfold vp_in; decide) dL_law_171 ?_
    refine lv_iload hx hb dL_law_172 (lv_at hl 0 rfl) ?_
    refine lv_i2l hx hb dL_law_174 (v := b9.toInt64) rfl ?_
    refine W.lcmp hx hb dL_law_175 ?_
    refine lv_if_eq (tgt := 181) hx hb dL_law_176 (by decide) (fun _ => ?_) (fun c7 => absurd ((lg_cmp_eq _ _).mpr (hf c8)) c7)
    refine lv_goto (tgt := 999) hx hb dL_law_181 (by decide) ?_
    exact kk _ H locs ls hV1 hP hD hS (lv_sub hl [2, 3, 4, 5, 6] rfl)
set_option maxHeartbeats 4000000 in
set_option maxRecDepth 100000 in
theorem lk_set {p : Program} {l : Launch} {e : Env} {s : State} {m : MethodId} {below : List Frame} {meth : Method} {c : Code} {b L : Nat} {xs : Nat → Int32} {E : EE} {cL : ClassId} {T0 : Nat → Nat} {Xp o : Nat} {Bp Tp Cp Rp A : Nat → Nat} (C : LC p l s m c b L xs E cL T0) (hL : L ≤ 2048) {i : Nat} (hi : i + 4 ≤ L) {w : va_W} {H : Heap} {locs : List Loc} {cells slots : Nat} {ls : Array Slot} {Q : State → Prop} (hV : LV E cL Xp o Bp Tp Cp Rp A w) (hP : va_P E.1 vwCl w H) (hD : va_D (fun q => s.heap.size ≤ q) w) (hS : va_S (fun q => s.heap.size ≤ q) s.heap H locs) (hl : lv_has ls 9 [(4, .int (nI i)), (0, .ref b), (1, .ref Xp), (2, .ref (A 0)), (3, .ref o)]) (hc : cells + 1 ≤ room_1.cells) (hs : slots + 6 ≤ room_1.slots)
    (kk : ∀ (w1 : va_W) (H1 : Heap) (locs1 : List Loc) (ls1 : Array Slot), LV E cL Xp o Bp Tp Cp Rp A w1 → va_P E.1 vwCl w1 H1 → va_D (fun q => s.heap.size ≤ q) w1 → va_S (fun q => s.heap.size ≤ q) s.heap H1 locs1 → lv_has ls1 9 [(4, .int (nI i)), (0, .ref b), (1, .ref Xp), (2, .ref (A 0)), (3, .ref o)] → W p l e room_1 s m #[Value.ref b] below meth c H1 locs1 (cells + 1) (slots + 6) Q (F0 m 999 ls1 [])) : W p l e room_1 s m #[Value.ref b] below meth c H locs cells slots Q (F0 m 184 ls []) := by
  obtain ⟨hx, hb, hml, hown, hts, hXs, hbl, hK, hKL, hN, hX, hst⟩ := C
  obtain ⟨sz, nw, pf, g, lo, up, pk, g2, z2, lo2, up2, pk2, cd, G, z, a, r, h, f, Lb, rfl, hR, hLb, hG⟩ := LV_out hV
  have hA : ∀ q : Nat, s.heap.size ≤ q → (fun q : Nat => s.heap.size ≤ q) q := fun _ h => h
  have hbA : ¬ (fun q : Nat => s.heap.size ≤ q) b := Nat.not_le.mpr hbl
  have hn1 : vp_in (nI i + 1) L := by rw [show (1 : Int32) = nI 1 from rfl, nI_add]; exact vp_in_nI (by omega) (by omega)
  have hn2 : vp_in (nI i + 2) L := by rw [show (2 : Int32) = nI 2 from rfl, nI_add]; exact vp_in_nI (by omega) (by omega)
  obtain ⟨wx1, f1, k9, b9, G1, z1, a1, t1, r1, h1, hW, hM, hk, hf, hV1⟩ := alt_set (E := E) (cL := cL) (T0 := T0) (Xp := Xp) (o := o) (Bp := Bp) (Tp := Tp) (Cp := Cp) (Rp := Rp) (A := A) (g2 := g2) (z2 := z2) (lo2 := lo2) (up2 := up2) (pk2 := pk2) (cd := cd) (a := a) (r := r) (h := h) (f := f) hst hR hLb hG (xs (nI i + 1).toNatClampNeg) (xs (nI i + 2).toNatClampNeg)
  refine lv_aload_n hx hb dL_law_184 rfl (lv_at hl 2 rfl) ?_
  refine lv_aload_n hx hb dL_law_185 rfl (lv_at hl 1 rfl) ?_
  refine lv_iload hx hb dL_law_186 (lv_at hl 0 rfl) ?_
  refine lv_iconst (v := 1) hx hb dL_law_188 (by decide) ?_
  refine lv_iadd hx hb dL_law_189 ?_
  refine va_sld hx hb hXs hbl hbA hS hn1 dL_law_190 ?_
  refine lv_aload_n hx hb dL_law_191 rfl (lv_at hl 1 rfl) ?_
  refine lv_iload hx hb dL_law_192 (lv_at hl 0 rfl) ?_
  refine lv_iconst (v := 2) hx hb dL_law_194 (by decide) ?_
  refine lv_iadd hx hb dL_law_195 ?_
  refine va_sld hx hb hXs hbl hbA hS hn2 dL_law_196 ?_
  refine lv_aload_n hx hb dL_law_197 rfl (lv_at hl 4 rfl) ?_
  refine lS (wM E A G z a cd r h) (As := [.ref Xp, .int (xs (nI i + 1).toNatClampNeg), .int (xs (nI i + 2).toNatClampNeg), .ref o]) (rest := []) ⟨hx, hb, hml, hown, hts⟩ hW (vx_cwSW 4 hts gL_law_L_set rfl rfl rfl (by decide +kernel) ⟨Nat.le_of_ble_eq_true rfl, Nat.le_of_ble_eq_true rfl⟩) hP hK hKL hD hN hX hS hA rfl hl.1 rfl (Nat.le_of_ble_eq_true rfl) dL_law_198 ⟨hc, hs⟩ (fun H locs hP hD hS => ?_)
  refine lv_istore (lv' := [(5, .int k9), (4, .int (nI i)), (0, .ref b), (1, .ref Xp), (2, .ref (A 0)), (3, .ref o)]) hx hb dL_law_201 hl (by decide) rfl (fun ls hl => ?_)
  refine lv_aload_n hx hb dL_law_203 rfl (lv_at hl 4 rfl) ?_
  refine lv_aload_n hx hb dL_law_204 rfl (lv_at hl 2 rfl) ?_
  refine lv_iload hx hb dL_law_205 (lv_at hl 1 rfl) ?_
  refine lv_iconst (v := 1) hx hb dL_law_207 (by decide) ?_
  refine lv_iadd hx hb dL_law_208 ?_
  refine va_sld hx hb hXs hbl hbA hS hn1 dL_law_209 ?_
  refine lv_aload_n hx hb dL_law_210 rfl (lv_at hl 2 rfl) ?_
  refine lv_iload hx hb dL_law_211 (lv_at hl 1 rfl) ?_
  refine lv_iconst (v := 2) hx hb dL_law_213 (by decide) ?_
  refine lv_iadd hx hb dL_law_214 ?_
  refine va_sld hx hb hXs hbl hbA hS hn2 dL_law_215 ?_
  refine lMi (wx1 ++ [(o, cO cL f1)]) (As := [.int (xs (nI i + 1).toNatClampNeg), .int (xs (nI i + 2).toNatClampNeg)]) (rest := []) ⟨hx, hb, hml, hown, hts⟩ hM (cwV 2 hts gL_law_X5_set rfl rfl rfl (by decide +kernel) ⟨Nat.le_of_ble_eq_true rfl, Nat.le_of_ble_eq_true rfl⟩) (va_recv hK hP (ci := 5) rfl (at_mid _ _ _)) hP hK hD hN hS hA rfl hl.1 rfl (Nat.le_of_ble_eq_true rfl) dL_law_216 ⟨hc, hs⟩ (fun H locs hP hD hS => ?_)
  refine lv_istore (lv' := [(6, .int b9), (5, .int k9), (4, .int (nI i)), (0, .ref b), (1, .ref Xp), (2, .ref (A 0)), (3, .ref o)]) hx hb dL_law_219 hl (by decide) rfl (fun ls hl => ?_)
  refine lv_aload_n hx hb dL_law_221 rfl (lv_at hl 5 rfl) ?_
  refine lMi (wx1 ++ [(o, cO cL f1)]) (As := []) (rest := []) ⟨hx, hb, hml, hown, hts⟩ (c_X5_thrown l E A G1 z1 a1 t1 r1 h1) (cwV 0 hts gL_law_X5_thrown rfl rfl rfl (by decide +kernel) ⟨Nat.le_of_ble_eq_true rfl, Nat.le_of_ble_eq_true rfl⟩) (va_recv hK hP (ci := 5) rfl (at_mid _ _ _)) hP hK hD hN hS hA rfl hl.1 rfl (Nat.le_of_ble_eq_true rfl) dL_law_222 ⟨hc, hs⟩ (fun H locs hP hD hS => ?_)
  refine lv_iload hx hb dL_law_225 (lv_at hl 1 rfl) ?_
  refine lv_icmp_eq (tgt := 232) hx hb dL_law_227 (by decide) (fun _ => ?_) (fun c9 => absurd hk c9)
  refine lv_iload hx hb dL_law_232 (lv_at hl 1 rfl) ?_
  refine lv_if_ne (tgt := 249) hx hb dL_law_234 (by decide) (fun _ => ?_) (fun c8 => ?_)
  · refine lv_goto (tgt := 999) hx hb dL_law_249 (by decide) ?_
    exact kk _ H locs ls hV1 hP hD hS (lv_sub hl [2, 3, 4, 5, 6] rfl)
  · refine lv_aload_n hx hb dL_law_237 rfl (lv_at hl 6 rfl) ?_
    refine lv_iconst (v := 0) hx hb dL_law_238 (by decide) ?_
    refine va_lald hx hb hKL hP wx1.length 0 (at_out _ _ _) rfl (by unfold vp_in; decide) dL_law_239 ?_
    refine lv_iload hx hb dL_law_240 (lv_at hl 0 rfl) ?_
    refine lv_i2l hx hb dL_law_242 (v := b9.toInt64) rfl ?_
    refine W.lcmp hx hb dL_law_243 ?_
    refine lv_if_eq (tgt := 249) hx hb dL_law_244 (by decide) (fun _ => ?_) (fun c7 => absurd ((lg_cmp_eq _ _).mpr (hf c8)) c7)
    refine lv_goto (tgt := 999) hx hb dL_law_249 (by decide) ?_
    exact kk _ H locs ls hV1 hP hD hS (lv_sub hl [2, 3, 4, 5, 6] rfl)
set_option maxHeartbeats 4000000 in
set_option maxRecDepth 100000 in
theorem lk_setting {p : Program} {l : Launch} {e : Env} {s : State} {m : MethodId} {below : List Frame} {meth : Method} {c : Code} {b L : Nat} {xs : Nat → Int32} {E : EE} {cL : ClassId} {T0 : Nat → Nat} {Xp o : Nat} {Bp Tp Cp Rp A : Nat → Nat} (C : LC p l s m c b L xs E cL T0) (hL : L ≤ 2048) {i : Nat} (hi : i + 4 ≤ L) {w : va_W} {H : Heap} {locs : List Loc} {cells slots : Nat} {ls : Array Slot} {Q : State → Prop} (hV : LV E cL Xp o Bp Tp Cp Rp A w) (hP : va_P E.1 vwCl w H) (hD : va_D (fun q => s.heap.size ≤ q) w) (hS : va_S (fun q => s.heap.size ≤ q) s.heap H locs) (hl : lv_has ls 9 [(4, .int (nI i)), (0, .ref b), (1, .ref Xp), (2, .ref (A 0)), (3, .ref o)]) (hc : cells + 1 ≤ room_1.cells) (hs : slots + 6 ≤ room_1.slots)
    (kk : ∀ (w1 : va_W) (H1 : Heap) (locs1 : List Loc) (ls1 : Array Slot), LV E cL Xp o Bp Tp Cp Rp A w1 → va_P E.1 vwCl w1 H1 → va_D (fun q => s.heap.size ≤ q) w1 → va_S (fun q => s.heap.size ≤ q) s.heap H1 locs1 → lv_has ls1 9 [(4, .int (nI i)), (0, .ref b), (1, .ref Xp), (2, .ref (A 0)), (3, .ref o)] → W p l e room_1 s m #[Value.ref b] below meth c H1 locs1 (cells + 1) (slots + 6) Q (F0 m 999 ls1 [])) : W p l e room_1 s m #[Value.ref b] below meth c H locs cells slots Q (F0 m 252 ls []) := by
  obtain ⟨hx, hb, hml, hown, hts, hXs, hbl, hK, hKL, hN, hX, hst⟩ := C
  obtain ⟨sz, nw, pf, g, lo, up, pk, g2, z2, lo2, up2, pk2, cd, G, z, a, r, h, f, Lb, rfl, hR, hLb, hG⟩ := LV_out hV
  have hA : ∀ q : Nat, s.heap.size ≤ q → (fun q : Nat => s.heap.size ≤ q) q := fun _ h => h
  have hbA : ¬ (fun q : Nat => s.heap.size ≤ q) b := Nat.not_le.mpr hbl
  have hn1 : vp_in (nI i + 1) L := by rw [show (1 : Int32) = nI 1 from rfl, nI_add]; exact vp_in_nI (by omega) (by omega)
  obtain ⟨wx1, f1, k9, b9, G1, z1, a1, t1, r1, h1, hW, hM, hk, hf, hV1⟩ := alt_setting (E := E) (cL := cL) (T0 := T0) (Xp := Xp) (o := o) (Bp := Bp) (Tp := Tp) (Cp := Cp) (Rp := Rp) (A := A) (g2 := g2) (z2 := z2) (lo2 := lo2) (up2 := up2) (pk2 := pk2) (cd := cd) (a := a) (r := r) (h := h) (f := f) hst hR hLb hG (xs (nI i + 1).toNatClampNeg)
  refine lv_aload_n hx hb dL_law_252 rfl (lv_at hl 2 rfl) ?_
  refine lv_aload_n hx hb dL_law_253 rfl (lv_at hl 1 rfl) ?_
  refine lv_iload hx hb dL_law_254 (lv_at hl 0 rfl) ?_
  refine lv_iconst (v := 1) hx hb dL_law_256 (by decide) ?_
  refine lv_iadd hx hb dL_law_257 ?_
  refine va_sld hx hb hXs hbl hbA hS hn1 dL_law_258 ?_
  refine lv_aload_n hx hb dL_law_259 rfl (lv_at hl 4 rfl) ?_
  refine lS (wM E A G z a cd r h) (As := [.ref Xp, .int (xs (nI i + 1).toNatClampNeg), .ref o]) (rest := []) ⟨hx, hb, hml, hown, hts⟩ hW (vx_cwSW 3 hts gL_law_L_setting rfl rfl rfl (by decide +kernel) ⟨Nat.le_of_ble_eq_true rfl, Nat.le_of_ble_eq_true rfl⟩) hP hK hKL hD hN hX hS hA rfl hl.1 rfl (Nat.le_of_ble_eq_true rfl) dL_law_260 ⟨hc, hs⟩ (fun H locs hP hD hS => ?_)
  refine lv_istore (lv' := [(5, .int k9), (4, .int (nI i)), (0, .ref b), (1, .ref Xp), (2, .ref (A 0)), (3, .ref o)]) hx hb dL_law_263 hl (by decide) rfl (fun ls hl => ?_)
  refine lv_aload_n hx hb dL_law_265 rfl (lv_at hl 4 rfl) ?_
  refine lv_aload_n hx hb dL_law_266 rfl (lv_at hl 2 rfl) ?_
  refine lv_iload hx hb dL_law_267 (lv_at hl 1 rfl) ?_
  refine lv_iconst (v := 1) hx hb dL_law_269 (by decide) ?_
  refine lv_iadd hx hb dL_law_270 ?_
  refine va_sld hx hb hXs hbl hbA hS hn1 dL_law_271 ?_
  refine lMi (wx1 ++ [(o, cO cL f1)]) (As := [.int (xs (nI i + 1).toNatClampNeg)]) (rest := []) ⟨hx, hb, hml, hown, hts⟩ hM (cwV 1 hts gL_law_X5_setting rfl rfl rfl (by decide +kernel) ⟨Nat.le_of_ble_eq_true rfl, Nat.le_of_ble_eq_true rfl⟩) (va_recv hK hP (ci := 5) rfl (at_mid _ _ _)) hP hK hD hN hS hA rfl hl.1 rfl (Nat.le_of_ble_eq_true rfl) dL_law_272 ⟨hc, hs⟩ (fun H locs hP hD hS => ?_)
  refine lv_istore (lv' := [(6, .int b9), (5, .int k9), (4, .int (nI i)), (0, .ref b), (1, .ref Xp), (2, .ref (A 0)), (3, .ref o)]) hx hb dL_law_275 hl (by decide) rfl (fun ls hl => ?_)
  refine lv_aload_n hx hb dL_law_277 rfl (lv_at hl 5 rfl) ?_
  refine lMi (wx1 ++ [(o, cO cL f1)]) (As := []) (rest := []) ⟨hx, hb, hml, hown, hts⟩ (c_X5_thrown l E A G1 z1 a1 t1 r1 h1) (cwV 0 hts gL_law_X5_thrown rfl rfl rfl (by decide +kernel) ⟨Nat.le_of_ble_eq_true rfl, Nat.le_of_ble_eq_true rfl⟩) (va_recv hK hP (ci := 5) rfl (at_mid _ _ _)) hP hK hD hN hS hA rfl hl.1 rfl (Nat.le_of_ble_eq_true rfl) dL_law_278 ⟨hc, hs⟩ (fun H locs hP hD hS => ?_)
  refine lv_iload hx hb dL_law_281 (lv_at hl 1 rfl) ?_
  refine lv_icmp_eq (tgt := 288) hx hb dL_law_283 (by decide) (fun _ => ?_) (fun c9 => absurd hk c9)
  refine lv_iload hx hb dL_law_288 (lv_at hl 1 rfl) ?_
  refine lv_if_ne (tgt := 305) hx hb dL_law_290 (by decide) (fun _ => ?_) (fun c8 => ?_)
  · refine lv_goto (tgt := 999) hx hb dL_law_305 (by decide) ?_
    exact kk _ H locs ls hV1 hP hD hS (lv_sub hl [2, 3, 4, 5, 6] rfl)
  · refine lv_aload_n hx hb dL_law_293 rfl (lv_at hl 6 rfl) ?_
    refine lv_iconst (v := 0) hx hb dL_law_294 (by decide) ?_
    refine va_lald hx hb hKL hP wx1.length 0 (at_out _ _ _) rfl (by unfold vp_in; decide) dL_law_295 ?_
    refine lv_iload hx hb dL_law_296 (lv_at hl 0 rfl) ?_
    refine lv_i2l hx hb dL_law_298 (v := b9.toInt64) rfl ?_
    refine W.lcmp hx hb dL_law_299 ?_
    refine lv_if_eq (tgt := 305) hx hb dL_law_300 (by decide) (fun _ => ?_) (fun c7 => absurd ((lg_cmp_eq _ _).mpr (hf c8)) c7)
    refine lv_goto (tgt := 999) hx hb dL_law_305 (by decide) ?_
    exact kk _ H locs ls hV1 hP hD hS (lv_sub hl [2, 3, 4, 5, 6] rfl)
set_option maxHeartbeats 4000000 in
set_option maxRecDepth 100000 in
theorem lk_start {p : Program} {l : Launch} {e : Env} {s : State} {m : MethodId} {below : List Frame} {meth : Method} {c : Code} {b L : Nat} {xs : Nat → Int32} {E : EE} {cL : ClassId} {T0 : Nat → Nat} {Xp o : Nat} {Bp Tp Cp Rp A : Nat → Nat} (C : LC p l s m c b L xs E cL T0) (hL : L ≤ 2048) {i : Nat} (hi : i + 4 ≤ L) {w : va_W} {H : Heap} {locs : List Loc} {cells slots : Nat} {ls : Array Slot} {Q : State → Prop} (hV : LV E cL Xp o Bp Tp Cp Rp A w) (hP : va_P E.1 vwCl w H) (hD : va_D (fun q => s.heap.size ≤ q) w) (hS : va_S (fun q => s.heap.size ≤ q) s.heap H locs) (hl : lv_has ls 9 [(4, .int (nI i)), (0, .ref b), (1, .ref Xp), (2, .ref (A 0)), (3, .ref o)]) (hc : cells + 1 ≤ room_1.cells) (hs : slots + 6 ≤ room_1.slots)
    (kk : ∀ (w1 : va_W) (H1 : Heap) (locs1 : List Loc) (ls1 : Array Slot), LV E cL Xp o Bp Tp Cp Rp A w1 → va_P E.1 vwCl w1 H1 → va_D (fun q => s.heap.size ≤ q) w1 → va_S (fun q => s.heap.size ≤ q) s.heap H1 locs1 → lv_has ls1 9 [(4, .int (nI i)), (0, .ref b), (1, .ref Xp), (2, .ref (A 0)), (3, .ref o)] → W p l e room_1 s m #[Value.ref b] below meth c H1 locs1 (cells + 1) (slots + 6) Q (F0 m 999 ls1 [])) : W p l e room_1 s m #[Value.ref b] below meth c H locs cells slots Q (F0 m 308 ls []) := by
  obtain ⟨hx, hb, hml, hown, hts, hXs, hbl, hK, hKL, hN, hX, hst⟩ := C
  obtain ⟨sz, nw, pf, g, lo, up, pk, g2, z2, lo2, up2, pk2, cd, G, z, a, r, h, f, Lb, rfl, hR, hLb, hG⟩ := LV_out hV
  have hA : ∀ q : Nat, s.heap.size ≤ q → (fun q : Nat => s.heap.size ≤ q) q := fun _ h => h
  have hbA : ¬ (fun q : Nat => s.heap.size ≤ q) b := Nat.not_le.mpr hbl
  obtain ⟨wx1, f1, k9, b9, G1, z1, a1, t1, r1, h1, hW, hM, hk, hf, hV1⟩ := alt_start (E := E) (cL := cL) (T0 := T0) (Xp := Xp) (o := o) (Bp := Bp) (Tp := Tp) (Cp := Cp) (Rp := Rp) (A := A) (g2 := g2) (z2 := z2) (lo2 := lo2) (up2 := up2) (pk2 := pk2) (cd := cd) (a := a) (r := r) (h := h) (f := f) hst hR hLb hG 
  refine lv_aload_n hx hb dL_law_308 rfl (lv_at hl 2 rfl) ?_
  refine lv_aload_n hx hb dL_law_309 rfl (lv_at hl 4 rfl) ?_
  refine lS (wM E A G z a cd r h) (As := [.ref Xp, .ref o]) (rest := []) ⟨hx, hb, hml, hown, hts⟩ hW (vx_cwSW 2 hts gL_law_L_start rfl rfl rfl (by decide +kernel) ⟨Nat.le_of_ble_eq_true rfl, Nat.le_of_ble_eq_true rfl⟩) hP hK hKL hD hN hX hS hA rfl hl.1 rfl (Nat.le_of_ble_eq_true rfl) dL_law_310 ⟨hc, hs⟩ (fun H locs hP hD hS => ?_)
  refine lv_istore (lv' := [(5, .int k9), (4, .int (nI i)), (0, .ref b), (1, .ref Xp), (2, .ref (A 0)), (3, .ref o)]) hx hb dL_law_313 hl (by decide) rfl (fun ls hl => ?_)
  refine lv_aload_n hx hb dL_law_315 rfl (lv_at hl 4 rfl) ?_
  refine lMi (wx1 ++ [(o, cO cL f1)]) (As := []) (rest := []) ⟨hx, hb, hml, hown, hts⟩ hM (cwV 0 hts gL_law_X5_start rfl rfl rfl (by decide +kernel) ⟨Nat.le_of_ble_eq_true rfl, Nat.le_of_ble_eq_true rfl⟩) (va_recv hK hP (ci := 5) rfl (at_mid _ _ _)) hP hK hD hN hS hA rfl hl.1 rfl (Nat.le_of_ble_eq_true rfl) dL_law_316 ⟨hc, hs⟩ (fun H locs hP hD hS => ?_)
  refine lv_istore (lv' := [(6, .int b9), (5, .int k9), (4, .int (nI i)), (0, .ref b), (1, .ref Xp), (2, .ref (A 0)), (3, .ref o)]) hx hb dL_law_319 hl (by decide) rfl (fun ls hl => ?_)
  refine lv_aload_n hx hb dL_law_321 rfl (lv_at hl 5 rfl) ?_
  refine lMi (wx1 ++ [(o, cO cL f1)]) (As := []) (rest := []) ⟨hx, hb, hml, hown, hts⟩ (c_X5_thrown l E A G1 z1 a1 t1 r1 h1) (cwV 0 hts gL_law_X5_thrown rfl rfl rfl (by decide +kernel) ⟨Nat.le_of_ble_eq_true rfl, Nat.le_of_ble_eq_true rfl⟩) (va_recv hK hP (ci := 5) rfl (at_mid _ _ _)) hP hK hD hN hS hA rfl hl.1 rfl (Nat.le_of_ble_eq_true rfl) dL_law_322 ⟨hc, hs⟩ (fun H locs hP hD hS => ?_)
  refine lv_iload hx hb dL_law_325 (lv_at hl 1 rfl) ?_
  refine lv_icmp_eq (tgt := 332) hx hb dL_law_327 (by decide) (fun _ => ?_) (fun c9 => absurd hk c9)
  refine lv_iload hx hb dL_law_332 (lv_at hl 1 rfl) ?_
  refine lv_if_ne (tgt := 349) hx hb dL_law_334 (by decide) (fun _ => ?_) (fun c8 => ?_)
  · refine lv_goto (tgt := 999) hx hb dL_law_349 (by decide) ?_
    exact kk _ H locs ls hV1 hP hD hS (lv_sub hl [2, 3, 4, 5, 6] rfl)
  · refine lv_aload_n hx hb dL_law_337 rfl (lv_at hl 6 rfl) ?_
    refine lv_iconst (v := 0) hx hb dL_law_338 (by decide) ?_
    refine va_lald hx hb hKL hP wx1.length 0 (at_out _ _ _) rfl (by unfold vp_in; decide) dL_law_339 ?_
    refine lv_iload hx hb dL_law_340 (lv_at hl 0 rfl) ?_
    refine lv_i2l hx hb dL_law_342 (v := b9.toInt64) rfl ?_
    refine W.lcmp hx hb dL_law_343 ?_
    refine lv_if_eq (tgt := 349) hx hb dL_law_344 (by decide) (fun _ => ?_) (fun c7 => absurd ((lg_cmp_eq _ _).mpr (hf c8)) c7)
    refine lv_goto (tgt := 999) hx hb dL_law_349 (by decide) ?_
    exact kk _ H locs ls hV1 hP hD hS (lv_sub hl [2, 3, 4, 5, 6] rfl)
set_option maxHeartbeats 4000000 in
set_option maxRecDepth 100000 in
theorem lk_stop {p : Program} {l : Launch} {e : Env} {s : State} {m : MethodId} {below : List Frame} {meth : Method} {c : Code} {b L : Nat} {xs : Nat → Int32} {E : EE} {cL : ClassId} {T0 : Nat → Nat} {Xp o : Nat} {Bp Tp Cp Rp A : Nat → Nat} (C : LC p l s m c b L xs E cL T0) (hL : L ≤ 2048) {i : Nat} (hi : i + 4 ≤ L) {w : va_W} {H : Heap} {locs : List Loc} {cells slots : Nat} {ls : Array Slot} {Q : State → Prop} (hV : LV E cL Xp o Bp Tp Cp Rp A w) (hP : va_P E.1 vwCl w H) (hD : va_D (fun q => s.heap.size ≤ q) w) (hS : va_S (fun q => s.heap.size ≤ q) s.heap H locs) (hl : lv_has ls 9 [(4, .int (nI i)), (0, .ref b), (1, .ref Xp), (2, .ref (A 0)), (3, .ref o)]) (hc : cells + 1 ≤ room_1.cells) (hs : slots + 6 ≤ room_1.slots)
    (kk : ∀ (w1 : va_W) (H1 : Heap) (locs1 : List Loc) (ls1 : Array Slot), LV E cL Xp o Bp Tp Cp Rp A w1 → va_P E.1 vwCl w1 H1 → va_D (fun q => s.heap.size ≤ q) w1 → va_S (fun q => s.heap.size ≤ q) s.heap H1 locs1 → lv_has ls1 9 [(4, .int (nI i)), (0, .ref b), (1, .ref Xp), (2, .ref (A 0)), (3, .ref o)] → W p l e room_1 s m #[Value.ref b] below meth c H1 locs1 (cells + 1) (slots + 6) Q (F0 m 999 ls1 [])) : W p l e room_1 s m #[Value.ref b] below meth c H locs cells slots Q (F0 m 352 ls []) := by
  obtain ⟨hx, hb, hml, hown, hts, hXs, hbl, hK, hKL, hN, hX, hst⟩ := C
  obtain ⟨sz, nw, pf, g, lo, up, pk, g2, z2, lo2, up2, pk2, cd, G, z, a, r, h, f, Lb, rfl, hR, hLb, hG⟩ := LV_out hV
  have hA : ∀ q : Nat, s.heap.size ≤ q → (fun q : Nat => s.heap.size ≤ q) q := fun _ h => h
  have hbA : ¬ (fun q : Nat => s.heap.size ≤ q) b := Nat.not_le.mpr hbl
  have hM := c_X4_stop l E Xp Cp sz nw pf Bp g z lo up pk Tp g2 z2 lo2 up2 pk2 Rp (nI Lb) cd hR.1.1 hR.1.2.1
  have hm := c_X5_stop l E A G z a cd r h hR.1.1
  refine lv_aload_n hx hb dL_law_352 rfl (lv_at hl 2 rfl) ?_
  refine lCi [(o, cO cL f)] (wM E A G z a cd r h) (As := []) (rest := []) ⟨hx, hb, hml, hown, hts⟩ hM (cwV 0 hts gL_law_X4_stop rfl rfl rfl (by decide +kernel) ⟨Nat.le_of_ble_eq_true rfl, Nat.le_of_ble_eq_true rfl⟩) (va_recv hK hP (ci := 4) (q0 := 0) rfl rfl) hP hK hD hN hS hA rfl hl.1 rfl (Nat.le_of_ble_eq_true rfl) dL_law_353 ⟨Nat.le_of_succ_le hc, by omega⟩ (fun H locs hP hD hS => ?_)
  refine lv_aload_n hx hb dL_law_356 rfl (lv_at hl 3 rfl) ?_
  refine lMi _ (As := []) (rest := _) ⟨hx, hb, hml, hown, hts⟩ hm (cwV 0 hts gL_law_X5_stop rfl rfl rfl (by decide +kernel) ⟨Nat.le_of_ble_eq_true rfl, Nat.le_of_ble_eq_true rfl⟩) (va_recv hK hP (ci := 5) rfl (at_mid _ _ _)) hP hK hD hN hS hA rfl hl.1 rfl (Nat.le_of_ble_eq_true rfl) dL_law_357 ⟨Nat.le_of_succ_le hc, by omega⟩ (fun H locs hP hD hS => ?_)
  refine lv_icmp_eq (tgt := 999) hx hb dL_law_360 (by decide) (fun _ => ?_) (fun c9 => absurd rfl c9)
  refine W.widen (k := cells + 1) (n := slots + 6) (by omega) (by omega) ?_
  exact kk _ H locs ls (LV_mk (RLs_stop hR) hLb (by rw [pk_un (by omega)]; exact hG)) hP hD hS hl
set_option maxHeartbeats 4000000 in
set_option maxRecDepth 100000 in
theorem lk_run {p : Program} {l : Launch} {e : Env} {s : State} {m : MethodId} {below : List Frame} {meth : Method} {c : Code} {b L : Nat} {xs : Nat → Int32} {E : EE} {cL : ClassId} {T0 : Nat → Nat} {Xp o : Nat} {Bp Tp Cp Rp A : Nat → Nat} (C : LC p l s m c b L xs E cL T0) (hL : L ≤ 2048) {i : Nat} (hi : i + 4 ≤ L) {w : va_W} {H : Heap} {locs : List Loc} {cells slots : Nat} {ls : Array Slot} {Q : State → Prop} (hV : LV E cL Xp o Bp Tp Cp Rp A w) (hP : va_P E.1 vwCl w H) (hD : va_D (fun q => s.heap.size ≤ q) w) (hS : va_S (fun q => s.heap.size ≤ q) s.heap H locs) (hl : lv_has ls 9 [(4, .int (nI i)), (0, .ref b), (1, .ref Xp), (2, .ref (A 0)), (3, .ref o)]) (hc : cells + 1 ≤ room_1.cells) (hs : slots + 6 ≤ room_1.slots)
    (kk : ∀ (w1 : va_W) (H1 : Heap) (locs1 : List Loc) (ls1 : Array Slot), LV E cL Xp o Bp Tp Cp Rp A w1 → va_P E.1 vwCl w1 H1 → va_D (fun q => s.heap.size ≤ q) w1 → va_S (fun q => s.heap.size ≤ q) s.heap H1 locs1 → lv_has ls1 9 [(4, .int (nI i)), (0, .ref b), (1, .ref Xp), (2, .ref (A 0)), (3, .ref o)] → W p l e room_1 s m #[Value.ref b] below meth c H1 locs1 (cells + 1) (slots + 6) Q (F0 m 999 ls1 [])) : W p l e room_1 s m #[Value.ref b] below meth c H locs cells slots Q (F0 m 365 ls []) := by
  obtain ⟨hx, hb, hml, hown, hts, hXs, hbl, hK, hKL, hN, hX, hst⟩ := C
  obtain ⟨sz, nw, pf, g, lo, up, pk, g2, z2, lo2, up2, pk2, cd, G, z, a, r, h, f, Lb, rfl, hR, hLb, hG⟩ := LV_out hV
  have hA : ∀ q : Nat, s.heap.size ≤ q → (fun q : Nat => s.heap.size ≤ q) q := fun _ h => h
  have hbA : ¬ (fun q : Nat => s.heap.size ≤ q) b := Nat.not_le.mpr hbl
  have hn1 : vp_in (nI i + 1) L := by rw [show (1 : Int32) = nI 1 from rfl, nI_add]; exact vp_in_nI (by omega) (by omega)
  obtain ⟨wx1, f1, k9, b9, G1, z1, a1, t1, r1, h1, hW, hM, hk, hf, hV1⟩ := alt_run (E := E) (cL := cL) (T0 := T0) (Xp := Xp) (o := o) (Bp := Bp) (Tp := Tp) (Cp := Cp) (Rp := Rp) (A := A) (g2 := g2) (z2 := z2) (lo2 := lo2) (up2 := up2) (pk2 := pk2) (cd := cd) (a := a) (r := r) (h := h) (f := f) hst hR hLb hG (xs (nI i + 1).toNatClampNeg)
  refine lv_aload_n hx hb dL_law_365 rfl (lv_at hl 2 rfl) ?_
  refine lv_aload_n hx hb dL_law_366 rfl (lv_at hl 1 rfl) ?_
  refine lv_iload hx hb dL_law_367 (lv_at hl 0 rfl) ?_
  refine lv_iconst (v := 1) hx hb dL_law_369 (by decide) ?_
  refine lv_iadd hx hb dL_law_370 ?_
  refine va_sld hx hb hXs hbl hbA hS hn1 dL_law_371 ?_
  refine lv_aload_n hx hb dL_law_372 rfl (lv_at hl 4 rfl) ?_
  refine lS (wM E A G z a cd r h) (As := [.ref Xp, .int (xs (nI i + 1).toNatClampNeg), .ref o]) (rest := []) ⟨hx, hb, hml, hown, hts⟩ hW (vx_cwSW 3 hts gL_law_L_run rfl rfl rfl (by decide +kernel) ⟨Nat.le_of_ble_eq_true rfl, Nat.le_of_ble_eq_true rfl⟩) hP hK hKL hD hN hX hS hA rfl hl.1 rfl (Nat.le_of_ble_eq_true rfl) dL_law_373 ⟨hc, hs⟩ (fun H locs hP hD hS => ?_)
  refine lv_istore (lv' := [(5, .int k9), (4, .int (nI i)), (0, .ref b), (1, .ref Xp), (2, .ref (A 0)), (3, .ref o)]) hx hb dL_law_376 hl (by decide) rfl (fun ls hl => ?_)
  refine lv_aload_n hx hb dL_law_378 rfl (lv_at hl 4 rfl) ?_
  refine lv_aload_n hx hb dL_law_379 rfl (lv_at hl 2 rfl) ?_
  refine lv_iload hx hb dL_law_380 (lv_at hl 1 rfl) ?_
  refine lv_iconst (v := 1) hx hb dL_law_382 (by decide) ?_
  refine lv_iadd hx hb dL_law_383 ?_
  refine va_sld hx hb hXs hbl hbA hS hn1 dL_law_384 ?_
  refine lMi (wx1 ++ [(o, cO cL f1)]) (As := [.int (xs (nI i + 1).toNatClampNeg)]) (rest := []) ⟨hx, hb, hml, hown, hts⟩ hM (cwV 1 hts gL_law_X5_run rfl rfl rfl (by decide +kernel) ⟨Nat.le_of_ble_eq_true rfl, Nat.le_of_ble_eq_true rfl⟩) (va_recv hK hP (ci := 5) rfl (at_mid _ _ _)) hP hK hD hN hS hA rfl hl.1 rfl (Nat.le_of_ble_eq_true rfl) dL_law_385 ⟨hc, hs⟩ (fun H locs hP hD hS => ?_)
  refine lv_istore (lv' := [(6, .int b9), (5, .int k9), (4, .int (nI i)), (0, .ref b), (1, .ref Xp), (2, .ref (A 0)), (3, .ref o)]) hx hb dL_law_388 hl (by decide) rfl (fun ls hl => ?_)
  refine lv_aload_n hx hb dL_law_390 rfl (lv_at hl 5 rfl) ?_
  refine lMi (wx1 ++ [(o, cO cL f1)]) (As := []) (rest := []) ⟨hx, hb, hml, hown, hts⟩ (c_X5_thrown l E A G1 z1 a1 t1 r1 h1) (cwV 0 hts gL_law_X5_thrown rfl rfl rfl (by decide +kernel) ⟨Nat.le_of_ble_eq_true rfl, Nat.le_of_ble_eq_true rfl⟩) (va_recv hK hP (ci := 5) rfl (at_mid _ _ _)) hP hK hD hN hS hA rfl hl.1 rfl (Nat.le_of_ble_eq_true rfl) dL_law_391 ⟨hc, hs⟩ (fun H locs hP hD hS => ?_)
  refine lv_iload hx hb dL_law_394 (lv_at hl 1 rfl) ?_
  refine lv_icmp_eq (tgt := 401) hx hb dL_law_396 (by decide) (fun _ => ?_) (fun c9 => absurd hk c9)
  refine lv_iload hx hb dL_law_401 (lv_at hl 1 rfl) ?_
  refine lv_if_ne (tgt := 418) hx hb dL_law_403 (by decide) (fun _ => ?_) (fun c8 => ?_)
  · refine lv_goto (tgt := 999) hx hb dL_law_418 (by decide) ?_
    exact kk _ H locs ls hV1 hP hD hS (lv_sub hl [2, 3, 4, 5, 6] rfl)
  · refine lv_aload_n hx hb dL_law_406 rfl (lv_at hl 6 rfl) ?_
    refine lv_iconst (v := 0) hx hb dL_law_407 (by decide) ?_
    refine va_lald hx hb hKL hP wx1.length 0 (at_out _ _ _) rfl (by unfold vp_in; decide) dL_law_408 ?_
    refine lv_iload hx hb dL_law_409 (lv_at hl 0 rfl) ?_
    refine lv_i2l hx hb dL_law_411 (v := b9.toInt64) rfl ?_
    refine W.lcmp hx hb dL_law_412 ?_
    refine lv_if_eq (tgt := 418) hx hb dL_law_413 (by decide) (fun _ => ?_) (fun c7 => absurd ((lg_cmp_eq _ _).mpr (hf c8)) c7)
    refine lv_goto (tgt := 999) hx hb dL_law_418 (by decide) ?_
    exact kk _ H locs ls hV1 hP hD hS (lv_sub hl [2, 3, 4, 5, 6] rfl)
set_option maxHeartbeats 4000000 in
set_option maxRecDepth 100000 in
theorem lk_append {p : Program} {l : Launch} {e : Env} {s : State} {m : MethodId} {below : List Frame} {meth : Method} {c : Code} {b L : Nat} {xs : Nat → Int32} {E : EE} {cL : ClassId} {T0 : Nat → Nat} {Xp o : Nat} {Bp Tp Cp Rp A : Nat → Nat} (C : LC p l s m c b L xs E cL T0) (hL : L ≤ 2048) {i : Nat} (hi : i + 4 ≤ L) {w : va_W} {H : Heap} {locs : List Loc} {cells slots : Nat} {ls : Array Slot} {Q : State → Prop} (hV : LV E cL Xp o Bp Tp Cp Rp A w) (hP : va_P E.1 vwCl w H) (hD : va_D (fun q => s.heap.size ≤ q) w) (hS : va_S (fun q => s.heap.size ≤ q) s.heap H locs) (hl : lv_has ls 9 [(4, .int (nI i)), (0, .ref b), (1, .ref Xp), (2, .ref (A 0)), (3, .ref o)]) (hc : cells + 1 ≤ room_1.cells) (hs : slots + 6 ≤ room_1.slots)
    (kk : ∀ (w1 : va_W) (H1 : Heap) (locs1 : List Loc) (ls1 : Array Slot), LV E cL Xp o Bp Tp Cp Rp A w1 → va_P E.1 vwCl w1 H1 → va_D (fun q => s.heap.size ≤ q) w1 → va_S (fun q => s.heap.size ≤ q) s.heap H1 locs1 → lv_has ls1 9 [(4, .int (nI i)), (0, .ref b), (1, .ref Xp), (2, .ref (A 0)), (3, .ref o)] → W p l e room_1 s m #[Value.ref b] below meth c H1 locs1 (cells + 1) (slots + 6) Q (F0 m 999 ls1 [])) : W p l e room_1 s m #[Value.ref b] below meth c H locs cells slots Q (F0 m 421 ls []) := by
  obtain ⟨hx, hb, hml, hown, hts, hXs, hbl, hK, hKL, hN, hX, hst⟩ := C
  obtain ⟨sz, nw, pf, g, lo, up, pk, g2, z2, lo2, up2, pk2, cd, G, z, a, r, h, f, Lb, rfl, hR, hLb, hG⟩ := LV_out hV
  have hA : ∀ q : Nat, s.heap.size ≤ q → (fun q : Nat => s.heap.size ≤ q) q := fun _ h => h
  have hbA : ¬ (fun q : Nat => s.heap.size ≤ q) b := Nat.not_le.mpr hbl
  have hn1 : vp_in (nI i + 1) L := by rw [show (1 : Int32) = nI 1 from rfl, nI_add]; exact vp_in_nI (by omega) (by omega)
  obtain ⟨wx1, f1, k9, b9, G1, z1, a1, t1, r1, h1, hW, hM, hk, hf, hV1⟩ := alt_append (E := E) (cL := cL) (T0 := T0) (Xp := Xp) (o := o) (Bp := Bp) (Tp := Tp) (Cp := Cp) (Rp := Rp) (A := A) (g2 := g2) (z2 := z2) (lo2 := lo2) (up2 := up2) (pk2 := pk2) (cd := cd) (a := a) (r := r) (h := h) (f := f) hst hR hLb hG (xs (nI i + 1).toNatClampNeg)
  refine lv_aload_n hx hb dL_law_421 rfl (lv_at hl 2 rfl) ?_
  refine lv_aload_n hx hb dL_law_422 rfl (lv_at hl 1 rfl) ?_
  refine lv_iload hx hb dL_law_423 (lv_at hl 0 rfl) ?_
  refine lv_iconst (v := 1) hx hb dL_law_425 (by decide) ?_
  refine lv_iadd hx hb dL_law_426 ?_
  refine va_sld hx hb hXs hbl hbA hS hn1 dL_law_427 ?_
  refine lv_aload_n hx hb dL_law_428 rfl (lv_at hl 4 rfl) ?_
  refine lS (wM E A G z a cd r h) (As := [.ref Xp, .int (xs (nI i + 1).toNatClampNeg), .ref o]) (rest := []) ⟨hx, hb, hml, hown, hts⟩ hW (vx_cwSW 3 hts gL_law_L_append rfl rfl rfl (by decide +kernel) ⟨Nat.le_of_ble_eq_true rfl, Nat.le_of_ble_eq_true rfl⟩) hP hK hKL hD hN hX hS hA rfl hl.1 rfl (Nat.le_of_ble_eq_true rfl) dL_law_429 ⟨hc, hs⟩ (fun H locs hP hD hS => ?_)
  refine lv_istore (lv' := [(5, .int k9), (4, .int (nI i)), (0, .ref b), (1, .ref Xp), (2, .ref (A 0)), (3, .ref o)]) hx hb dL_law_432 hl (by decide) rfl (fun ls hl => ?_)
  refine lv_aload_n hx hb dL_law_434 rfl (lv_at hl 4 rfl) ?_
  refine lv_aload_n hx hb dL_law_435 rfl (lv_at hl 2 rfl) ?_
  refine lv_iload hx hb dL_law_436 (lv_at hl 1 rfl) ?_
  refine lv_iconst (v := 1) hx hb dL_law_438 (by decide) ?_
  refine lv_iadd hx hb dL_law_439 ?_
  refine va_sld hx hb hXs hbl hbA hS hn1 dL_law_440 ?_
  refine lMi (wx1 ++ [(o, cO cL f1)]) (As := [.int (xs (nI i + 1).toNatClampNeg)]) (rest := []) ⟨hx, hb, hml, hown, hts⟩ hM (cwV 1 hts gL_law_X5_append rfl rfl rfl (by decide +kernel) ⟨Nat.le_of_ble_eq_true rfl, Nat.le_of_ble_eq_true rfl⟩) (va_recv hK hP (ci := 5) rfl (at_mid _ _ _)) hP hK hD hN hS hA rfl hl.1 rfl (Nat.le_of_ble_eq_true rfl) dL_law_441 ⟨hc, hs⟩ (fun H locs hP hD hS => ?_)
  refine lv_istore (lv' := [(6, .int b9), (5, .int k9), (4, .int (nI i)), (0, .ref b), (1, .ref Xp), (2, .ref (A 0)), (3, .ref o)]) hx hb dL_law_444 hl (by decide) rfl (fun ls hl => ?_)
  refine lv_aload_n hx hb dL_law_446 rfl (lv_at hl 5 rfl) ?_
  refine lMi (wx1 ++ [(o, cO cL f1)]) (As := []) (rest := []) ⟨hx, hb, hml, hown, hts⟩ (c_X5_thrown l E A G1 z1 a1 t1 r1 h1) (cwV 0 hts gL_law_X5_thrown rfl rfl rfl (by decide +kernel) ⟨Nat.le_of_ble_eq_true rfl, Nat.le_of_ble_eq_true rfl⟩) (va_recv hK hP (ci := 5) rfl (at_mid _ _ _)) hP hK hD hN hS hA rfl hl.1 rfl (Nat.le_of_ble_eq_true rfl) dL_law_447 ⟨hc, hs⟩ (fun H locs hP hD hS => ?_)
  refine lv_iload hx hb dL_law_450 (lv_at hl 1 rfl) ?_
  refine lv_icmp_eq (tgt := 457) hx hb dL_law_452 (by decide) (fun _ => ?_) (fun c9 => absurd hk c9)
  refine lv_iload hx hb dL_law_457 (lv_at hl 1 rfl) ?_
  refine lv_if_ne (tgt := 474) hx hb dL_law_459 (by decide) (fun _ => ?_) (fun c8 => ?_)
  · refine lv_goto (tgt := 999) hx hb dL_law_474 (by decide) ?_
    exact kk _ H locs ls hV1 hP hD hS (lv_sub hl [2, 3, 4, 5, 6] rfl)
  · refine lv_aload_n hx hb dL_law_462 rfl (lv_at hl 6 rfl) ?_
    refine lv_iconst (v := 0) hx hb dL_law_463 (by decide) ?_
    refine va_lald hx hb hKL hP wx1.length 0 (at_out _ _ _) rfl (by unfold vp_in; decide) dL_law_464 ?_
    refine lv_iload hx hb dL_law_465 (lv_at hl 0 rfl) ?_
    refine lv_i2l hx hb dL_law_467 (v := b9.toInt64) rfl ?_
    refine W.lcmp hx hb dL_law_468 ?_
    refine lv_if_eq (tgt := 474) hx hb dL_law_469 (by decide) (fun _ => ?_) (fun c7 => absurd ((lg_cmp_eq _ _).mpr (hf c8)) c7)
    refine lv_goto (tgt := 999) hx hb dL_law_474 (by decide) ?_
    exact kk _ H locs ls hV1 hP hD hS (lv_sub hl [2, 3, 4, 5, 6] rfl)
set_option maxHeartbeats 4000000 in
set_option maxRecDepth 100000 in
theorem lk_clearBuffer {p : Program} {l : Launch} {e : Env} {s : State} {m : MethodId} {below : List Frame} {meth : Method} {c : Code} {b L : Nat} {xs : Nat → Int32} {E : EE} {cL : ClassId} {T0 : Nat → Nat} {Xp o : Nat} {Bp Tp Cp Rp A : Nat → Nat} (C : LC p l s m c b L xs E cL T0) (hL : L ≤ 2048) {i : Nat} (hi : i + 4 ≤ L) {w : va_W} {H : Heap} {locs : List Loc} {cells slots : Nat} {ls : Array Slot} {Q : State → Prop} (hV : LV E cL Xp o Bp Tp Cp Rp A w) (hP : va_P E.1 vwCl w H) (hD : va_D (fun q => s.heap.size ≤ q) w) (hS : va_S (fun q => s.heap.size ≤ q) s.heap H locs) (hl : lv_has ls 9 [(4, .int (nI i)), (0, .ref b), (1, .ref Xp), (2, .ref (A 0)), (3, .ref o)]) (hc : cells + 1 ≤ room_1.cells) (hs : slots + 6 ≤ room_1.slots)
    (kk : ∀ (w1 : va_W) (H1 : Heap) (locs1 : List Loc) (ls1 : Array Slot), LV E cL Xp o Bp Tp Cp Rp A w1 → va_P E.1 vwCl w1 H1 → va_D (fun q => s.heap.size ≤ q) w1 → va_S (fun q => s.heap.size ≤ q) s.heap H1 locs1 → lv_has ls1 9 [(4, .int (nI i)), (0, .ref b), (1, .ref Xp), (2, .ref (A 0)), (3, .ref o)] → W p l e room_1 s m #[Value.ref b] below meth c H1 locs1 (cells + 1) (slots + 6) Q (F0 m 999 ls1 [])) : W p l e room_1 s m #[Value.ref b] below meth c H locs cells slots Q (F0 m 477 ls []) := by
  obtain ⟨hx, hb, hml, hown, hts, hXs, hbl, hK, hKL, hN, hX, hst⟩ := C
  obtain ⟨sz, nw, pf, g, lo, up, pk, g2, z2, lo2, up2, pk2, cd, G, z, a, r, h, f, Lb, rfl, hR, hLb, hG⟩ := LV_out hV
  have hA : ∀ q : Nat, s.heap.size ≤ q → (fun q : Nat => s.heap.size ≤ q) q := fun _ h => h
  have hbA : ¬ (fun q : Nat => s.heap.size ≤ q) b := Nat.not_le.mpr hbl
  have hM := c_X4_clearBuffer l E Xp Cp sz nw pf Bp g z lo up pk Tp g2 z2 lo2 up2 pk2 Rp (nI Lb) cd 
  have hm := c_X5_clearBuffer l E A G z a cd r h 
  rw [hG] at hm
  refine lv_aload_n hx hb dL_law_477 rfl (lv_at hl 2 rfl) ?_
  refine lCi [(o, cO cL f)] (wM E A G z a cd r h) (As := []) (rest := []) ⟨hx, hb, hml, hown, hts⟩ hM (cwV 0 hts gL_law_X4_clearBuffer rfl rfl rfl (by decide +kernel) ⟨Nat.le_of_ble_eq_true rfl, Nat.le_of_ble_eq_true rfl⟩) (va_recv hK hP (ci := 4) (q0 := 0) rfl rfl) hP hK hD hN hS hA rfl hl.1 rfl (Nat.le_of_ble_eq_true rfl) dL_law_478 ⟨Nat.le_of_succ_le hc, by omega⟩ (fun H locs hP hD hS => ?_)
  refine lv_aload_n hx hb dL_law_481 rfl (lv_at hl 3 rfl) ?_
  refine lMi _ (As := []) (rest := _) ⟨hx, hb, hml, hown, hts⟩ hm (cwV 0 hts gL_law_X5_clearBuffer rfl rfl rfl (by decide +kernel) ⟨Nat.le_of_ble_eq_true rfl, Nat.le_of_ble_eq_true rfl⟩) (va_recv hK hP (ci := 5) rfl (at_mid _ _ _)) hP hK hD hN hS hA rfl hl.1 rfl (Nat.le_of_ble_eq_true rfl) dL_law_482 ⟨Nat.le_of_succ_le hc, by omega⟩ (fun H locs hP hD hS => ?_)
  refine lv_icmp_eq (tgt := 999) hx hb dL_law_485 (by decide) (fun _ => ?_) (fun c9 => absurd rfl c9)
  refine W.widen (k := cells + 1) (n := slots + 6) (by omega) (by omega) ?_
  exact kk _ H locs ls (LV_mk (L := 0) hR (by omega) pk_us) hP hD hS hl
set_option maxHeartbeats 4000000 in
set_option maxRecDepth 100000 in
theorem lk_firstError {p : Program} {l : Launch} {e : Env} {s : State} {m : MethodId} {below : List Frame} {meth : Method} {c : Code} {b L : Nat} {xs : Nat → Int32} {E : EE} {cL : ClassId} {T0 : Nat → Nat} {Xp o : Nat} {Bp Tp Cp Rp A : Nat → Nat} (C : LC p l s m c b L xs E cL T0) (hL : L ≤ 2048) {i : Nat} (hi : i + 4 ≤ L) {w : va_W} {H : Heap} {locs : List Loc} {cells slots : Nat} {ls : Array Slot} {Q : State → Prop} (hV : LV E cL Xp o Bp Tp Cp Rp A w) (hP : va_P E.1 vwCl w H) (hD : va_D (fun q => s.heap.size ≤ q) w) (hS : va_S (fun q => s.heap.size ≤ q) s.heap H locs) (hl : lv_has ls 9 [(4, .int (nI i)), (0, .ref b), (1, .ref Xp), (2, .ref (A 0)), (3, .ref o)]) (hc : cells + 1 ≤ room_1.cells) (hs : slots + 6 ≤ room_1.slots)
    (kk : ∀ (w1 : va_W) (H1 : Heap) (locs1 : List Loc) (ls1 : Array Slot), LV E cL Xp o Bp Tp Cp Rp A w1 → va_P E.1 vwCl w1 H1 → va_D (fun q => s.heap.size ≤ q) w1 → va_S (fun q => s.heap.size ≤ q) s.heap H1 locs1 → lv_has ls1 9 [(4, .int (nI i)), (0, .ref b), (1, .ref Xp), (2, .ref (A 0)), (3, .ref o)] → W p l e room_1 s m #[Value.ref b] below meth c H1 locs1 (cells + 1) (slots + 6) Q (F0 m 999 ls1 [])) : W p l e room_1 s m #[Value.ref b] below meth c H locs cells slots Q (F0 m 490 ls []) := by
  obtain ⟨hx, hb, hml, hown, hts, hXs, hbl, hK, hKL, hN, hX, hst⟩ := C
  obtain ⟨sz, nw, pf, g, lo, up, pk, g2, z2, lo2, up2, pk2, cd, G, z, a, r, h, f, Lb, rfl, hR, hLb, hG⟩ := LV_out hV
  have hA : ∀ q : Nat, s.heap.size ≤ q → (fun q : Nat => s.heap.size ≤ q) q := fun _ h => h
  have hbA : ¬ (fun q : Nat => s.heap.size ≤ q) b := Nat.not_le.mpr hbl
  have hM := c_X4_firstError l E Xp Cp sz nw pf Bp g z lo up pk Tp g2 z2 lo2 up2 pk2 Rp (nI Lb) cd Lb rfl hLb
  have hm := c_X5_firstError l E A G z a cd r h Lb hG hLb
  rw [fe_eq (G := upd G 0 0) (r := r)] at hM
  refine lv_aload_n hx hb dL_law_490 rfl (lv_at hl 2 rfl) ?_
  refine lCi [(o, cO cL f)] (wM E A G z a cd r h) (As := []) (rest := []) ⟨hx, hb, hml, hown, hts⟩ hM (cwV 0 hts gL_law_X4_firstError rfl rfl rfl (by decide +kernel) ⟨Nat.le_of_ble_eq_true rfl, Nat.le_of_ble_eq_true rfl⟩) (va_recv hK hP (ci := 4) (q0 := 0) rfl rfl) hP hK hD hN hS hA rfl hl.1 rfl (Nat.le_of_ble_eq_true rfl) dL_law_491 ⟨Nat.le_of_succ_le hc, by omega⟩ (fun H locs hP hD hS => ?_)
  refine lv_aload_n hx hb dL_law_494 rfl (lv_at hl 3 rfl) ?_
  refine lMi _ (As := []) (rest := _) ⟨hx, hb, hml, hown, hts⟩ hm (cwV 0 hts gL_law_X5_firstError rfl rfl rfl (by decide +kernel) ⟨Nat.le_of_ble_eq_true rfl, Nat.le_of_ble_eq_true rfl⟩) (va_recv hK hP (ci := 5) rfl (at_mid _ _ _)) hP hK hD hN hS hA rfl hl.1 rfl (Nat.le_of_ble_eq_true rfl) dL_law_495 ⟨Nat.le_of_succ_le hc, by omega⟩ (fun H locs hP hD hS => ?_)
  refine lv_icmp_eq (tgt := 999) hx hb dL_law_498 (by decide) (fun _ => ?_) (fun c9 => absurd rfl c9)
  refine W.widen (k := cells + 1) (n := slots + 6) (by omega) (by omega) ?_
  exact kk _ H locs ls (LV_mk hR hLb (by rw [rd_3 hLb, pk_un (by omega)]; exact hG)) hP hD hS hl
set_option maxHeartbeats 4000000 in
set_option maxRecDepth 100000 in
theorem lk_play {p : Program} {l : Launch} {e : Env} {s : State} {m : MethodId} {below : List Frame} {meth : Method} {c : Code} {b L : Nat} {xs : Nat → Int32} {E : EE} {cL : ClassId} {T0 : Nat → Nat} {Xp o : Nat} {Bp Tp Cp Rp A : Nat → Nat} (C : LC p l s m c b L xs E cL T0) (hL : L ≤ 2048) {i : Nat} (hi : i + 4 ≤ L) {w : va_W} {H : Heap} {locs : List Loc} {cells slots : Nat} {ls : Array Slot} {Q : State → Prop} (hV : LV E cL Xp o Bp Tp Cp Rp A w) (hP : va_P E.1 vwCl w H) (hD : va_D (fun q => s.heap.size ≤ q) w) (hS : va_S (fun q => s.heap.size ≤ q) s.heap H locs) (hl : lv_has ls 9 [(4, .int (nI i)), (0, .ref b), (1, .ref Xp), (2, .ref (A 0)), (3, .ref o)]) (hc : cells + 1 ≤ room_1.cells) (hs : slots + 6 ≤ room_1.slots)
    (kk : ∀ (w1 : va_W) (H1 : Heap) (locs1 : List Loc) (ls1 : Array Slot), LV E cL Xp o Bp Tp Cp Rp A w1 → va_P E.1 vwCl w1 H1 → va_D (fun q => s.heap.size ≤ q) w1 → va_S (fun q => s.heap.size ≤ q) s.heap H1 locs1 → lv_has ls1 9 [(4, .int (nI i)), (0, .ref b), (1, .ref Xp), (2, .ref (A 0)), (3, .ref o)] → W p l e room_1 s m #[Value.ref b] below meth c H1 locs1 (cells + 1) (slots + 6) Q (F0 m 999 ls1 [])) : W p l e room_1 s m #[Value.ref b] below meth c H locs cells slots Q (F0 m 503 ls []) := by
  obtain ⟨hx, hb, hml, hown, hts, hXs, hbl, hK, hKL, hN, hX, hst⟩ := C
  obtain ⟨sz, nw, pf, g, lo, up, pk, g2, z2, lo2, up2, pk2, cd, G, z, a, r, h, f, Lb, rfl, hR, hLb, hG⟩ := LV_out hV
  have hA : ∀ q : Nat, s.heap.size ≤ q → (fun q : Nat => s.heap.size ≤ q) q := fun _ h => h
  have hbA : ¬ (fun q : Nat => s.heap.size ≤ q) b := Nat.not_le.mpr hbl
  obtain ⟨wx1, f1, k9, b9, G1, z1, a1, t1, r1, h1, hW, hM, hk, hf, hV1⟩ := alt_play (E := E) (cL := cL) (T0 := T0) (Xp := Xp) (o := o) (Bp := Bp) (Tp := Tp) (Cp := Cp) (Rp := Rp) (A := A) (g2 := g2) (z2 := z2) (lo2 := lo2) (up2 := up2) (pk2 := pk2) (cd := cd) (a := a) (r := r) (h := h) (f := f) hst hR hLb hG 
  refine lv_aload_n hx hb dL_law_503 rfl (lv_at hl 2 rfl) ?_
  refine lv_aload_n hx hb dL_law_504 rfl (lv_at hl 4 rfl) ?_
  refine lS (wM E A G z a cd r h) (As := [.ref Xp, .ref o]) (rest := []) ⟨hx, hb, hml, hown, hts⟩ hW (vx_cwSW 2 hts gL_law_L_play rfl rfl rfl (by decide +kernel) ⟨Nat.le_of_ble_eq_true rfl, Nat.le_of_ble_eq_true rfl⟩) hP hK hKL hD hN hX hS hA rfl hl.1 rfl (Nat.le_of_ble_eq_true rfl) dL_law_505 ⟨hc, hs⟩ (fun H locs hP hD hS => ?_)
  refine lv_istore (lv' := [(5, .int k9), (4, .int (nI i)), (0, .ref b), (1, .ref Xp), (2, .ref (A 0)), (3, .ref o)]) hx hb dL_law_508 hl (by decide) rfl (fun ls hl => ?_)
  refine lv_aload_n hx hb dL_law_510 rfl (lv_at hl 4 rfl) ?_
  refine lMi (wx1 ++ [(o, cO cL f1)]) (As := []) (rest := []) ⟨hx, hb, hml, hown, hts⟩ hM (cwV 0 hts gL_law_X5_play rfl rfl rfl (by decide +kernel) ⟨Nat.le_of_ble_eq_true rfl, Nat.le_of_ble_eq_true rfl⟩) (va_recv hK hP (ci := 5) rfl (at_mid _ _ _)) hP hK hD hN hS hA rfl hl.1 rfl (Nat.le_of_ble_eq_true rfl) dL_law_511 ⟨hc, hs⟩ (fun H locs hP hD hS => ?_)
  refine lv_istore (lv' := [(6, .int b9), (5, .int k9), (4, .int (nI i)), (0, .ref b), (1, .ref Xp), (2, .ref (A 0)), (3, .ref o)]) hx hb dL_law_514 hl (by decide) rfl (fun ls hl => ?_)
  refine lv_aload_n hx hb dL_law_516 rfl (lv_at hl 5 rfl) ?_
  refine lMi (wx1 ++ [(o, cO cL f1)]) (As := []) (rest := []) ⟨hx, hb, hml, hown, hts⟩ (c_X5_thrown l E A G1 z1 a1 t1 r1 h1) (cwV 0 hts gL_law_X5_thrown rfl rfl rfl (by decide +kernel) ⟨Nat.le_of_ble_eq_true rfl, Nat.le_of_ble_eq_true rfl⟩) (va_recv hK hP (ci := 5) rfl (at_mid _ _ _)) hP hK hD hN hS hA rfl hl.1 rfl (Nat.le_of_ble_eq_true rfl) dL_law_517 ⟨hc, hs⟩ (fun H locs hP hD hS => ?_)
  refine lv_iload hx hb dL_law_520 (lv_at hl 1 rfl) ?_
  refine lv_icmp_eq (tgt := 527) hx hb dL_law_522 (by decide) (fun _ => ?_) (fun c9 => absurd hk c9)
  refine lv_iload hx hb dL_law_527 (lv_at hl 1 rfl) ?_
  refine lv_if_ne (tgt := 544) hx hb dL_law_529 (by decide) (fun _ => ?_) (fun c8 => ?_)
  · refine lv_goto (tgt := 999) hx hb dL_law_544 (by decide) ?_
    exact kk _ H locs ls hV1 hP hD hS (lv_sub hl [2, 3, 4, 5, 6] rfl)
  · refine lv_aload_n hx hb dL_law_532 rfl (lv_at hl 6 rfl) ?_
    refine lv_iconst (v := 0) hx hb dL_law_533 (by decide) ?_
    refine va_lald hx hb hKL hP wx1.length 0 (at_out _ _ _) rfl (by unfold vp_in; decide) dL_law_534 ?_
    refine lv_iload hx hb dL_law_535 (lv_at hl 0 rfl) ?_
    refine lv_i2l hx hb dL_law_537 (v := b9.toInt64) rfl ?_
    refine W.lcmp hx hb dL_law_538 ?_
    refine lv_if_eq (tgt := 544) hx hb dL_law_539 (by decide) (fun _ => ?_) (fun c7 => absurd ((lg_cmp_eq _ _).mpr (hf c8)) c7)
    refine lv_goto (tgt := 999) hx hb dL_law_544 (by decide) ?_
    exact kk _ H locs ls hV1 hP hD hS (lv_sub hl [2, 3, 4, 5, 6] rfl)
set_option maxHeartbeats 4000000 in
set_option maxRecDepth 100000 in
theorem lk_count {p : Program} {l : Launch} {e : Env} {s : State} {m : MethodId} {below : List Frame} {meth : Method} {c : Code} {b L : Nat} {xs : Nat → Int32} {E : EE} {cL : ClassId} {T0 : Nat → Nat} {Xp o : Nat} {Bp Tp Cp Rp A : Nat → Nat} (C : LC p l s m c b L xs E cL T0) (hL : L ≤ 2048) {i : Nat} (hi : i + 4 ≤ L) {w : va_W} {H : Heap} {locs : List Loc} {cells slots : Nat} {ls : Array Slot} {Q : State → Prop} (hV : LV E cL Xp o Bp Tp Cp Rp A w) (hP : va_P E.1 vwCl w H) (hD : va_D (fun q => s.heap.size ≤ q) w) (hS : va_S (fun q => s.heap.size ≤ q) s.heap H locs) (hl : lv_has ls 9 [(4, .int (nI i)), (0, .ref b), (1, .ref Xp), (2, .ref (A 0)), (3, .ref o)]) (hc : cells + 1 ≤ room_1.cells) (hs : slots + 6 ≤ room_1.slots)
    (kk : ∀ (w1 : va_W) (H1 : Heap) (locs1 : List Loc) (ls1 : Array Slot), LV E cL Xp o Bp Tp Cp Rp A w1 → va_P E.1 vwCl w1 H1 → va_D (fun q => s.heap.size ≤ q) w1 → va_S (fun q => s.heap.size ≤ q) s.heap H1 locs1 → lv_has ls1 9 [(4, .int (nI i)), (0, .ref b), (1, .ref Xp), (2, .ref (A 0)), (3, .ref o)] → W p l e room_1 s m #[Value.ref b] below meth c H1 locs1 (cells + 1) (slots + 6) Q (F0 m 999 ls1 [])) : W p l e room_1 s m #[Value.ref b] below meth c H locs cells slots Q (F0 m 547 ls []) := by
  obtain ⟨hx, hb, hml, hown, hts, hXs, hbl, hK, hKL, hN, hX, hst⟩ := C
  obtain ⟨sz, nw, pf, g, lo, up, pk, g2, z2, lo2, up2, pk2, cd, G, z, a, r, h, f, Lb, rfl, hR, hLb, hG⟩ := LV_out hV
  have hA : ∀ q : Nat, s.heap.size ≤ q → (fun q : Nat => s.heap.size ≤ q) q := fun _ h => h
  have hbA : ¬ (fun q : Nat => s.heap.size ≤ q) b := Nat.not_le.mpr hbl
  have hn1 : vp_in (nI i + 1) L := by rw [show (1 : Int32) = nI 1 from rfl, nI_add]; exact vp_in_nI (by omega) (by omega)
  obtain ⟨wx1, f1, k9, b9, G1, z1, a1, t1, r1, h1, hW, hM, hk, hf, hV1⟩ := alt_count (E := E) (cL := cL) (T0 := T0) (Xp := Xp) (o := o) (Bp := Bp) (Tp := Tp) (Cp := Cp) (Rp := Rp) (A := A) (g2 := g2) (z2 := z2) (lo2 := lo2) (up2 := up2) (pk2 := pk2) (cd := cd) (a := a) (r := r) (h := h) (f := f) hst hR hLb hG (xs (nI i + 1).toNatClampNeg)
  refine lv_aload_n hx hb dL_law_547 rfl (lv_at hl 2 rfl) ?_
  refine lv_aload_n hx hb dL_law_548 rfl (lv_at hl 1 rfl) ?_
  refine lv_iload hx hb dL_law_549 (lv_at hl 0 rfl) ?_
  refine lv_iconst (v := 1) hx hb dL_law_551 (by decide) ?_
  refine lv_iadd hx hb dL_law_552 ?_
  refine va_sld hx hb hXs hbl hbA hS hn1 dL_law_553 ?_
  refine lv_aload_n hx hb dL_law_554 rfl (lv_at hl 4 rfl) ?_
  refine lS (wM E A G z a cd r h) (As := [.ref Xp, .int (xs (nI i + 1).toNatClampNeg), .ref o]) (rest := []) ⟨hx, hb, hml, hown, hts⟩ hW (vx_cwSW 3 hts gL_law_L_count rfl rfl rfl (by decide +kernel) ⟨Nat.le_of_ble_eq_true rfl, Nat.le_of_ble_eq_true rfl⟩) hP hK hKL hD hN hX hS hA rfl hl.1 rfl (Nat.le_of_ble_eq_true rfl) dL_law_555 ⟨hc, hs⟩ (fun H locs hP hD hS => ?_)
  refine lv_istore (lv' := [(5, .int k9), (4, .int (nI i)), (0, .ref b), (1, .ref Xp), (2, .ref (A 0)), (3, .ref o)]) hx hb dL_law_558 hl (by decide) rfl (fun ls hl => ?_)
  refine lv_aload_n hx hb dL_law_560 rfl (lv_at hl 4 rfl) ?_
  refine lv_aload_n hx hb dL_law_561 rfl (lv_at hl 2 rfl) ?_
  refine lv_iload hx hb dL_law_562 (lv_at hl 1 rfl) ?_
  refine lv_iconst (v := 1) hx hb dL_law_564 (by decide) ?_
  refine lv_iadd hx hb dL_law_565 ?_
  refine va_sld hx hb hXs hbl hbA hS hn1 dL_law_566 ?_
  refine lMi (wx1 ++ [(o, cO cL f1)]) (As := [.int (xs (nI i + 1).toNatClampNeg)]) (rest := []) ⟨hx, hb, hml, hown, hts⟩ hM (cwV 1 hts gL_law_X5_count rfl rfl rfl (by decide +kernel) ⟨Nat.le_of_ble_eq_true rfl, Nat.le_of_ble_eq_true rfl⟩) (va_recv hK hP (ci := 5) rfl (at_mid _ _ _)) hP hK hD hN hS hA rfl hl.1 rfl (Nat.le_of_ble_eq_true rfl) dL_law_567 ⟨hc, hs⟩ (fun H locs hP hD hS => ?_)
  refine lv_istore (lv' := [(6, .int b9), (5, .int k9), (4, .int (nI i)), (0, .ref b), (1, .ref Xp), (2, .ref (A 0)), (3, .ref o)]) hx hb dL_law_570 hl (by decide) rfl (fun ls hl => ?_)
  refine lv_aload_n hx hb dL_law_572 rfl (lv_at hl 5 rfl) ?_
  refine lMi (wx1 ++ [(o, cO cL f1)]) (As := []) (rest := []) ⟨hx, hb, hml, hown, hts⟩ (c_X5_thrown l E A G1 z1 a1 t1 r1 h1) (cwV 0 hts gL_law_X5_thrown rfl rfl rfl (by decide +kernel) ⟨Nat.le_of_ble_eq_true rfl, Nat.le_of_ble_eq_true rfl⟩) (va_recv hK hP (ci := 5) rfl (at_mid _ _ _)) hP hK hD hN hS hA rfl hl.1 rfl (Nat.le_of_ble_eq_true rfl) dL_law_573 ⟨hc, hs⟩ (fun H locs hP hD hS => ?_)
  refine lv_iload hx hb dL_law_576 (lv_at hl 1 rfl) ?_
  refine lv_icmp_eq (tgt := 583) hx hb dL_law_578 (by decide) (fun _ => ?_) (fun c9 => absurd hk c9)
  refine lv_iload hx hb dL_law_583 (lv_at hl 1 rfl) ?_
  refine lv_if_ne (tgt := 600) hx hb dL_law_585 (by decide) (fun _ => ?_) (fun c8 => ?_)
  · refine lv_goto (tgt := 999) hx hb dL_law_600 (by decide) ?_
    exact kk _ H locs ls hV1 hP hD hS (lv_sub hl [2, 3, 4, 5, 6] rfl)
  · refine lv_aload_n hx hb dL_law_588 rfl (lv_at hl 6 rfl) ?_
    refine lv_iconst (v := 0) hx hb dL_law_589 (by decide) ?_
    refine va_lald hx hb hKL hP wx1.length 0 (at_out _ _ _) rfl (by unfold vp_in; decide) dL_law_590 ?_
    refine lv_iload hx hb dL_law_591 (lv_at hl 0 rfl) ?_
    refine lv_i2l hx hb dL_law_593 (v := b9.toInt64) rfl ?_
    refine W.lcmp hx hb dL_law_594 ?_
    refine lv_if_eq (tgt := 600) hx hb dL_law_595 (by decide) (fun _ => ?_) (fun c7 => absurd ((lg_cmp_eq _ _).mpr (hf c8)) c7)
    refine lv_goto (tgt := 999) hx hb dL_law_600 (by decide) ?_
    exact kk _ H locs ls hV1 hP hD hS (lv_sub hl [2, 3, 4, 5, 6] rfl)
set_option maxHeartbeats 4000000 in
set_option maxRecDepth 100000 in
theorem lk_phase {p : Program} {l : Launch} {e : Env} {s : State} {m : MethodId} {below : List Frame} {meth : Method} {c : Code} {b L : Nat} {xs : Nat → Int32} {E : EE} {cL : ClassId} {T0 : Nat → Nat} {Xp o : Nat} {Bp Tp Cp Rp A : Nat → Nat} (C : LC p l s m c b L xs E cL T0) (hL : L ≤ 2048) {i : Nat} (hi : i + 4 ≤ L) {w : va_W} {H : Heap} {locs : List Loc} {cells slots : Nat} {ls : Array Slot} {Q : State → Prop} (hV : LV E cL Xp o Bp Tp Cp Rp A w) (hP : va_P E.1 vwCl w H) (hD : va_D (fun q => s.heap.size ≤ q) w) (hS : va_S (fun q => s.heap.size ≤ q) s.heap H locs) (hl : lv_has ls 9 [(4, .int (nI i)), (0, .ref b), (1, .ref Xp), (2, .ref (A 0)), (3, .ref o)]) (hc : cells + 1 ≤ room_1.cells) (hs : slots + 6 ≤ room_1.slots)
    (kk : ∀ (w1 : va_W) (H1 : Heap) (locs1 : List Loc) (ls1 : Array Slot), LV E cL Xp o Bp Tp Cp Rp A w1 → va_P E.1 vwCl w1 H1 → va_D (fun q => s.heap.size ≤ q) w1 → va_S (fun q => s.heap.size ≤ q) s.heap H1 locs1 → lv_has ls1 9 [(4, .int (nI i)), (0, .ref b), (1, .ref Xp), (2, .ref (A 0)), (3, .ref o)] → W p l e room_1 s m #[Value.ref b] below meth c H1 locs1 (cells + 1) (slots + 6) Q (F0 m 999 ls1 [])) : W p l e room_1 s m #[Value.ref b] below meth c H locs cells slots Q (F0 m 603 ls []) := by
  obtain ⟨hx, hb, hml, hown, hts, hXs, hbl, hK, hKL, hN, hX, hst⟩ := C
  obtain ⟨sz, nw, pf, g, lo, up, pk, g2, z2, lo2, up2, pk2, cd, G, z, a, r, h, f, Lb, rfl, hR, hLb, hG⟩ := LV_out hV
  have hA : ∀ q : Nat, s.heap.size ≤ q → (fun q : Nat => s.heap.size ≤ q) q := fun _ h => h
  have hbA : ¬ (fun q : Nat => s.heap.size ≤ q) b := Nat.not_le.mpr hbl
  have hn1 : vp_in (nI i + 1) L := by rw [show (1 : Int32) = nI 1 from rfl, nI_add]; exact vp_in_nI (by omega) (by omega)
  have hn2 : vp_in (nI i + 2) L := by rw [show (2 : Int32) = nI 2 from rfl, nI_add]; exact vp_in_nI (by omega) (by omega)
  obtain ⟨wx1, f1, k9, b9, G1, z1, a1, t1, r1, h1, hW, hM, hk, hf, hV1⟩ := alt_phase (E := E) (cL := cL) (T0 := T0) (Xp := Xp) (o := o) (Bp := Bp) (Tp := Tp) (Cp := Cp) (Rp := Rp) (A := A) (g2 := g2) (z2 := z2) (lo2 := lo2) (up2 := up2) (pk2 := pk2) (cd := cd) (a := a) (r := r) (h := h) (f := f) hst hR hLb hG (xs (nI i + 1).toNatClampNeg) (xs (nI i + 2).toNatClampNeg)
  refine lv_aload_n hx hb dL_law_603 rfl (lv_at hl 2 rfl) ?_
  refine lv_aload_n hx hb dL_law_604 rfl (lv_at hl 1 rfl) ?_
  refine lv_iload hx hb dL_law_605 (lv_at hl 0 rfl) ?_
  refine lv_iconst (v := 1) hx hb dL_law_607 (by decide) ?_
  refine lv_iadd hx hb dL_law_608 ?_
  refine va_sld hx hb hXs hbl hbA hS hn1 dL_law_609 ?_
  refine lv_aload_n hx hb dL_law_610 rfl (lv_at hl 1 rfl) ?_
  refine lv_iload hx hb dL_law_611 (lv_at hl 0 rfl) ?_
  refine lv_iconst (v := 2) hx hb dL_law_613 (by decide) ?_
  refine lv_iadd hx hb dL_law_614 ?_
  refine va_sld hx hb hXs hbl hbA hS hn2 dL_law_615 ?_
  refine lv_aload_n hx hb dL_law_616 rfl (lv_at hl 4 rfl) ?_
  refine lS (wM E A G z a cd r h) (As := [.ref Xp, .int (xs (nI i + 1).toNatClampNeg), .int (xs (nI i + 2).toNatClampNeg), .ref o]) (rest := []) ⟨hx, hb, hml, hown, hts⟩ hW (vx_cwSW 4 hts gL_law_L_phase rfl rfl rfl (by decide +kernel) ⟨Nat.le_of_ble_eq_true rfl, Nat.le_of_ble_eq_true rfl⟩) hP hK hKL hD hN hX hS hA rfl hl.1 rfl (Nat.le_of_ble_eq_true rfl) dL_law_617 ⟨hc, hs⟩ (fun H locs hP hD hS => ?_)
  refine lv_istore (lv' := [(5, .int k9), (4, .int (nI i)), (0, .ref b), (1, .ref Xp), (2, .ref (A 0)), (3, .ref o)]) hx hb dL_law_620 hl (by decide) rfl (fun ls hl => ?_)
  refine lv_aload_n hx hb dL_law_622 rfl (lv_at hl 4 rfl) ?_
  refine lv_aload_n hx hb dL_law_623 rfl (lv_at hl 2 rfl) ?_
  refine lv_iload hx hb dL_law_624 (lv_at hl 1 rfl) ?_
  refine lv_iconst (v := 1) hx hb dL_law_626 (by decide) ?_
  refine lv_iadd hx hb dL_law_627 ?_
  refine va_sld hx hb hXs hbl hbA hS hn1 dL_law_628 ?_
  refine lv_aload_n hx hb dL_law_629 rfl (lv_at hl 2 rfl) ?_
  refine lv_iload hx hb dL_law_630 (lv_at hl 1 rfl) ?_
  refine lv_iconst (v := 2) hx hb dL_law_632 (by decide) ?_
  refine lv_iadd hx hb dL_law_633 ?_
  refine va_sld hx hb hXs hbl hbA hS hn2 dL_law_634 ?_
  refine lMi (wx1 ++ [(o, cO cL f1)]) (As := [.int (xs (nI i + 1).toNatClampNeg), .int (xs (nI i + 2).toNatClampNeg)]) (rest := []) ⟨hx, hb, hml, hown, hts⟩ hM (cwV 2 hts gL_law_X5_phase rfl rfl rfl (by decide +kernel) ⟨Nat.le_of_ble_eq_true rfl, Nat.le_of_ble_eq_true rfl⟩) (va_recv hK hP (ci := 5) rfl (at_mid _ _ _)) hP hK hD hN hS hA rfl hl.1 rfl (Nat.le_of_ble_eq_true rfl) dL_law_635 ⟨hc, hs⟩ (fun H locs hP hD hS => ?_)
  refine lv_istore (lv' := [(6, .int b9), (5, .int k9), (4, .int (nI i)), (0, .ref b), (1, .ref Xp), (2, .ref (A 0)), (3, .ref o)]) hx hb dL_law_638 hl (by decide) rfl (fun ls hl => ?_)
  refine lv_aload_n hx hb dL_law_640 rfl (lv_at hl 5 rfl) ?_
  refine lMi (wx1 ++ [(o, cO cL f1)]) (As := []) (rest := []) ⟨hx, hb, hml, hown, hts⟩ (c_X5_thrown l E A G1 z1 a1 t1 r1 h1) (cwV 0 hts gL_law_X5_thrown rfl rfl rfl (by decide +kernel) ⟨Nat.le_of_ble_eq_true rfl, Nat.le_of_ble_eq_true rfl⟩) (va_recv hK hP (ci := 5) rfl (at_mid _ _ _)) hP hK hD hN hS hA rfl hl.1 rfl (Nat.le_of_ble_eq_true rfl) dL_law_641 ⟨hc, hs⟩ (fun H locs hP hD hS => ?_)
  refine lv_iload hx hb dL_law_644 (lv_at hl 1 rfl) ?_
  refine lv_icmp_eq (tgt := 651) hx hb dL_law_646 (by decide) (fun _ => ?_) (fun c9 => absurd hk c9)
  refine lv_iload hx hb dL_law_651 (lv_at hl 1 rfl) ?_
  refine lv_if_ne (tgt := 668) hx hb dL_law_653 (by decide) (fun _ => ?_) (fun c8 => ?_)
  · refine lv_goto (tgt := 999) hx hb dL_law_668 (by decide) ?_
    exact kk _ H locs ls hV1 hP hD hS (lv_sub hl [2, 3, 4, 5, 6] rfl)
  · refine lv_aload_n hx hb dL_law_656 rfl (lv_at hl 6 rfl) ?_
    refine lv_iconst (v := 0) hx hb dL_law_657 (by decide) ?_
    refine va_lald hx hb hKL hP wx1.length 0 (at_out _ _ _) rfl (by unfold vp_in; decide) dL_law_658 ?_
    refine lv_iload hx hb dL_law_659 (lv_at hl 0 rfl) ?_
    refine lv_i2l hx hb dL_law_661 (v := b9.toInt64) rfl ?_
    refine W.lcmp hx hb dL_law_662 ?_
    refine lv_if_eq (tgt := 668) hx hb dL_law_663 (by decide) (fun _ => ?_) (fun c7 => absurd ((lg_cmp_eq _ _).mpr (hf c8)) c7)
    refine lv_goto (tgt := 999) hx hb dL_law_668 (by decide) ?_
    exact kk _ H locs ls hV1 hP hD hS (lv_sub hl [2, 3, 4, 5, 6] rfl)
set_option maxHeartbeats 4000000 in
set_option maxRecDepth 100000 in
theorem lk_record {p : Program} {l : Launch} {e : Env} {s : State} {m : MethodId} {below : List Frame} {meth : Method} {c : Code} {b L : Nat} {xs : Nat → Int32} {E : EE} {cL : ClassId} {T0 : Nat → Nat} {Xp o : Nat} {Bp Tp Cp Rp A : Nat → Nat} (C : LC p l s m c b L xs E cL T0) (hL : L ≤ 2048) {i : Nat} (hi : i + 4 ≤ L) {w : va_W} {H : Heap} {locs : List Loc} {cells slots : Nat} {ls : Array Slot} {Q : State → Prop} (hV : LV E cL Xp o Bp Tp Cp Rp A w) (hP : va_P E.1 vwCl w H) (hD : va_D (fun q => s.heap.size ≤ q) w) (hS : va_S (fun q => s.heap.size ≤ q) s.heap H locs) (hl : lv_has ls 9 [(4, .int (nI i)), (0, .ref b), (1, .ref Xp), (2, .ref (A 0)), (3, .ref o)]) (hc : cells + 1 ≤ room_1.cells) (hs : slots + 6 ≤ room_1.slots)
    (kk : ∀ (w1 : va_W) (H1 : Heap) (locs1 : List Loc) (ls1 : Array Slot), LV E cL Xp o Bp Tp Cp Rp A w1 → va_P E.1 vwCl w1 H1 → va_D (fun q => s.heap.size ≤ q) w1 → va_S (fun q => s.heap.size ≤ q) s.heap H1 locs1 → lv_has ls1 9 [(4, .int (nI i)), (0, .ref b), (1, .ref Xp), (2, .ref (A 0)), (3, .ref o)] → W p l e room_1 s m #[Value.ref b] below meth c H1 locs1 (cells + 1) (slots + 6) Q (F0 m 999 ls1 [])) : W p l e room_1 s m #[Value.ref b] below meth c H locs cells slots Q (F0 m 671 ls []) := by
  obtain ⟨hx, hb, hml, hown, hts, hXs, hbl, hK, hKL, hN, hX, hst⟩ := C
  obtain ⟨sz, nw, pf, g, lo, up, pk, g2, z2, lo2, up2, pk2, cd, G, z, a, r, h, f, Lb, rfl, hR, hLb, hG⟩ := LV_out hV
  have hA : ∀ q : Nat, s.heap.size ≤ q → (fun q : Nat => s.heap.size ≤ q) q := fun _ h => h
  have hbA : ¬ (fun q : Nat => s.heap.size ≤ q) b := Nat.not_le.mpr hbl
  have hn1 : vp_in (nI i + 1) L := by rw [show (1 : Int32) = nI 1 from rfl, nI_add]; exact vp_in_nI (by omega) (by omega)
  have hn2 : vp_in (nI i + 2) L := by rw [show (2 : Int32) = nI 2 from rfl, nI_add]; exact vp_in_nI (by omega) (by omega)
  obtain ⟨wx1, f1, k9, b9, G1, z1, a1, t1, r1, h1, hW, hM, hk, hf, hV1⟩ := alt_record (E := E) (cL := cL) (T0 := T0) (Xp := Xp) (o := o) (Bp := Bp) (Tp := Tp) (Cp := Cp) (Rp := Rp) (A := A) (g2 := g2) (z2 := z2) (lo2 := lo2) (up2 := up2) (pk2 := pk2) (cd := cd) (a := a) (r := r) (h := h) (f := f) hst hR hLb hG (xs (nI i + 1).toNatClampNeg) (xs (nI i + 2).toNatClampNeg)
  refine lv_aload_n hx hb dL_law_671 rfl (lv_at hl 2 rfl) ?_
  refine lv_aload_n hx hb dL_law_672 rfl (lv_at hl 1 rfl) ?_
  refine lv_iload hx hb dL_law_673 (lv_at hl 0 rfl) ?_
  refine lv_iconst (v := 1) hx hb dL_law_675 (by decide) ?_
  refine lv_iadd hx hb dL_law_676 ?_
  refine va_sld hx hb hXs hbl hbA hS hn1 dL_law_677 ?_
  refine lv_aload_n hx hb dL_law_678 rfl (lv_at hl 1 rfl) ?_
  refine lv_iload hx hb dL_law_679 (lv_at hl 0 rfl) ?_
  refine lv_iconst (v := 2) hx hb dL_law_681 (by decide) ?_
  refine lv_iadd hx hb dL_law_682 ?_
  refine va_sld hx hb hXs hbl hbA hS hn2 dL_law_683 ?_
  refine lv_aload_n hx hb dL_law_684 rfl (lv_at hl 4 rfl) ?_
  refine lS (wM E A G z a cd r h) (As := [.ref Xp, .int (xs (nI i + 1).toNatClampNeg), .int (xs (nI i + 2).toNatClampNeg), .ref o]) (rest := []) ⟨hx, hb, hml, hown, hts⟩ hW (vx_cwSW 4 hts gL_law_L_record rfl rfl rfl (by decide +kernel) ⟨Nat.le_of_ble_eq_true rfl, Nat.le_of_ble_eq_true rfl⟩) hP hK hKL hD hN hX hS hA rfl hl.1 rfl (Nat.le_of_ble_eq_true rfl) dL_law_685 ⟨hc, hs⟩ (fun H locs hP hD hS => ?_)
  refine lv_istore (lv' := [(5, .int k9), (4, .int (nI i)), (0, .ref b), (1, .ref Xp), (2, .ref (A 0)), (3, .ref o)]) hx hb dL_law_688 hl (by decide) rfl (fun ls hl => ?_)
  refine lv_aload_n hx hb dL_law_690 rfl (lv_at hl 4 rfl) ?_
  refine lv_aload_n hx hb dL_law_691 rfl (lv_at hl 2 rfl) ?_
  refine lv_iload hx hb dL_law_692 (lv_at hl 1 rfl) ?_
  refine lv_iconst (v := 1) hx hb dL_law_694 (by decide) ?_
  refine lv_iadd hx hb dL_law_695 ?_
  refine va_sld hx hb hXs hbl hbA hS hn1 dL_law_696 ?_
  refine lv_aload_n hx hb dL_law_697 rfl (lv_at hl 2 rfl) ?_
  refine lv_iload hx hb dL_law_698 (lv_at hl 1 rfl) ?_
  refine lv_iconst (v := 2) hx hb dL_law_700 (by decide) ?_
  refine lv_iadd hx hb dL_law_701 ?_
  refine va_sld hx hb hXs hbl hbA hS hn2 dL_law_702 ?_
  refine lMi (wx1 ++ [(o, cO cL f1)]) (As := [.int (xs (nI i + 1).toNatClampNeg), .int (xs (nI i + 2).toNatClampNeg)]) (rest := []) ⟨hx, hb, hml, hown, hts⟩ hM (cwV 2 hts gL_law_X5_record_ rfl rfl rfl (by decide +kernel) ⟨Nat.le_of_ble_eq_true rfl, Nat.le_of_ble_eq_true rfl⟩) (va_recv hK hP (ci := 5) rfl (at_mid _ _ _)) hP hK hD hN hS hA rfl hl.1 rfl (Nat.le_of_ble_eq_true rfl) dL_law_703 ⟨hc, hs⟩ (fun H locs hP hD hS => ?_)
  refine lv_istore (lv' := [(6, .int b9), (5, .int k9), (4, .int (nI i)), (0, .ref b), (1, .ref Xp), (2, .ref (A 0)), (3, .ref o)]) hx hb dL_law_706 hl (by decide) rfl (fun ls hl => ?_)
  refine lv_aload_n hx hb dL_law_708 rfl (lv_at hl 5 rfl) ?_
  refine lMi (wx1 ++ [(o, cO cL f1)]) (As := []) (rest := []) ⟨hx, hb, hml, hown, hts⟩ (c_X5_thrown l E A G1 z1 a1 t1 r1 h1) (cwV 0 hts gL_law_X5_thrown rfl rfl rfl (by decide +kernel) ⟨Nat.le_of_ble_eq_true rfl, Nat.le_of_ble_eq_true rfl⟩) (va_recv hK hP (ci := 5) rfl (at_mid _ _ _)) hP hK hD hN hS hA rfl hl.1 rfl (Nat.le_of_ble_eq_true rfl) dL_law_709 ⟨hc, hs⟩ (fun H locs hP hD hS => ?_)
  refine lv_iload hx hb dL_law_712 (lv_at hl 1 rfl) ?_
  refine lv_icmp_eq (tgt := 719) hx hb dL_law_714 (by decide) (fun _ => ?_) (fun c9 => absurd hk c9)
  refine lv_iload hx hb dL_law_719 (lv_at hl 1 rfl) ?_
  refine lv_if_ne (tgt := 736) hx hb dL_law_721 (by decide) (fun _ => ?_) (fun c8 => ?_)
  · refine lv_goto (tgt := 999) hx hb dL_law_736 (by decide) ?_
    exact kk _ H locs ls hV1 hP hD hS (lv_sub hl [2, 3, 4, 5, 6] rfl)
  · refine lv_aload_n hx hb dL_law_724 rfl (lv_at hl 6 rfl) ?_
    refine lv_iconst (v := 0) hx hb dL_law_725 (by decide) ?_
    refine va_lald hx hb hKL hP wx1.length 0 (at_out _ _ _) rfl (by unfold vp_in; decide) dL_law_726 ?_
    refine lv_iload hx hb dL_law_727 (lv_at hl 0 rfl) ?_
    refine lv_i2l hx hb dL_law_729 (v := b9.toInt64) rfl ?_
    refine W.lcmp hx hb dL_law_730 ?_
    refine lv_if_eq (tgt := 736) hx hb dL_law_731 (by decide) (fun _ => ?_) (fun c7 => absurd ((lg_cmp_eq _ _).mpr (hf c8)) c7)
    refine lv_goto (tgt := 999) hx hb dL_law_736 (by decide) ?_
    exact kk _ H locs ls hV1 hP hD hS (lv_sub hl [2, 3, 4, 5, 6] rfl)
set_option maxHeartbeats 4000000 in
set_option maxRecDepth 100000 in
theorem lk_ifLoaded {p : Program} {l : Launch} {e : Env} {s : State} {m : MethodId} {below : List Frame} {meth : Method} {c : Code} {b L : Nat} {xs : Nat → Int32} {E : EE} {cL : ClassId} {T0 : Nat → Nat} {Xp o : Nat} {Bp Tp Cp Rp A : Nat → Nat} (C : LC p l s m c b L xs E cL T0) (hL : L ≤ 2048) {i : Nat} (hi : i + 4 ≤ L) {w : va_W} {H : Heap} {locs : List Loc} {cells slots : Nat} {ls : Array Slot} {Q : State → Prop} (hV : LV E cL Xp o Bp Tp Cp Rp A w) (hP : va_P E.1 vwCl w H) (hD : va_D (fun q => s.heap.size ≤ q) w) (hS : va_S (fun q => s.heap.size ≤ q) s.heap H locs) (hl : lv_has ls 9 [(4, .int (nI i)), (0, .ref b), (1, .ref Xp), (2, .ref (A 0)), (3, .ref o)]) (hc : cells + 1 ≤ room_1.cells) (hs : slots + 6 ≤ room_1.slots)
    (kk : ∀ (w1 : va_W) (H1 : Heap) (locs1 : List Loc) (ls1 : Array Slot), LV E cL Xp o Bp Tp Cp Rp A w1 → va_P E.1 vwCl w1 H1 → va_D (fun q => s.heap.size ≤ q) w1 → va_S (fun q => s.heap.size ≤ q) s.heap H1 locs1 → lv_has ls1 9 [(4, .int (nI i)), (0, .ref b), (1, .ref Xp), (2, .ref (A 0)), (3, .ref o)] → W p l e room_1 s m #[Value.ref b] below meth c H1 locs1 (cells + 1) (slots + 6) Q (F0 m 999 ls1 [])) : W p l e room_1 s m #[Value.ref b] below meth c H locs cells slots Q (F0 m 739 ls []) := by
  obtain ⟨hx, hb, hml, hown, hts, hXs, hbl, hK, hKL, hN, hX, hst⟩ := C
  obtain ⟨sz, nw, pf, g, lo, up, pk, g2, z2, lo2, up2, pk2, cd, G, z, a, r, h, f, Lb, rfl, hR, hLb, hG⟩ := LV_out hV
  have hA : ∀ q : Nat, s.heap.size ≤ q → (fun q : Nat => s.heap.size ≤ q) q := fun _ h => h
  have hbA : ¬ (fun q : Nat => s.heap.size ≤ q) b := Nat.not_le.mpr hbl
  have hn1 : vp_in (nI i + 1) L := by rw [show (1 : Int32) = nI 1 from rfl, nI_add]; exact vp_in_nI (by omega) (by omega)
  have hn2 : vp_in (nI i + 2) L := by rw [show (2 : Int32) = nI 2 from rfl, nI_add]; exact vp_in_nI (by omega) (by omega)
  have hn3 : vp_in (nI i + 3) L := by rw [show (3 : Int32) = nI 3 from rfl, nI_add]; exact vp_in_nI (by omega) (by omega)
  obtain ⟨wx1, f1, k9, b9, G1, z1, a1, t1, r1, h1, hW, hM, hk, hf, hV1⟩ := alt_ifLoaded (E := E) (cL := cL) (T0 := T0) (Xp := Xp) (o := o) (Bp := Bp) (Tp := Tp) (Cp := Cp) (Rp := Rp) (A := A) (g2 := g2) (z2 := z2) (lo2 := lo2) (up2 := up2) (pk2 := pk2) (cd := cd) (a := a) (r := r) (h := h) (f := f) hst hR hLb hG (xs (nI i + 1).toNatClampNeg) (xs (nI i + 2).toNatClampNeg) (xs (nI i + 3).toNatClampNeg)
  refine lv_aload_n hx hb dL_law_739 rfl (lv_at hl 2 rfl) ?_
  refine lv_aload_n hx hb dL_law_740 rfl (lv_at hl 1 rfl) ?_
  refine lv_iload hx hb dL_law_741 (lv_at hl 0 rfl) ?_
  refine lv_iconst (v := 1) hx hb dL_law_743 (by decide) ?_
  refine lv_iadd hx hb dL_law_744 ?_
  refine va_sld hx hb hXs hbl hbA hS hn1 dL_law_745 ?_
  refine lv_aload_n hx hb dL_law_746 rfl (lv_at hl 1 rfl) ?_
  refine lv_iload hx hb dL_law_747 (lv_at hl 0 rfl) ?_
  refine lv_iconst (v := 2) hx hb dL_law_749 (by decide) ?_
  refine lv_iadd hx hb dL_law_750 ?_
  refine va_sld hx hb hXs hbl hbA hS hn2 dL_law_751 ?_
  refine lv_aload_n hx hb dL_law_752 rfl (lv_at hl 1 rfl) ?_
  refine lv_iload hx hb dL_law_753 (lv_at hl 0 rfl) ?_
  refine lv_iconst (v := 3) hx hb dL_law_755 (by decide) ?_
  refine lv_iadd hx hb dL_law_756 ?_
  refine va_sld hx hb hXs hbl hbA hS hn3 dL_law_757 ?_
  refine lv_aload_n hx hb dL_law_758 rfl (lv_at hl 4 rfl) ?_
  refine lS (wM E A G z a cd r h) (As := [.ref Xp, .int (xs (nI i + 1).toNatClampNeg), .int (xs (nI i + 2).toNatClampNeg), .int (xs (nI i + 3).toNatClampNeg), .ref o]) (rest := []) ⟨hx, hb, hml, hown, hts⟩ hW (vx_cwSW 5 hts gL_law_L_ifLoaded rfl rfl rfl (by decide +kernel) ⟨Nat.le_of_ble_eq_true rfl, Nat.le_of_ble_eq_true rfl⟩) hP hK hKL hD hN hX hS hA rfl hl.1 rfl (Nat.le_of_ble_eq_true rfl) dL_law_759 ⟨hc, hs⟩ (fun H locs hP hD hS => ?_)
  refine lv_istore (lv' := [(5, .int k9), (4, .int (nI i)), (0, .ref b), (1, .ref Xp), (2, .ref (A 0)), (3, .ref o)]) hx hb dL_law_762 hl (by decide) rfl (fun ls hl => ?_)
  refine lv_aload_n hx hb dL_law_764 rfl (lv_at hl 4 rfl) ?_
  refine lv_aload_n hx hb dL_law_765 rfl (lv_at hl 2 rfl) ?_
  refine lv_iload hx hb dL_law_766 (lv_at hl 1 rfl) ?_
  refine lv_iconst (v := 1) hx hb dL_law_768 (by decide) ?_
  refine lv_iadd hx hb dL_law_769 ?_
  refine va_sld hx hb hXs hbl hbA hS hn1 dL_law_770 ?_
  refine lv_aload_n hx hb dL_law_771 rfl (lv_at hl 2 rfl) ?_
  refine lv_iload hx hb dL_law_772 (lv_at hl 1 rfl) ?_
  refine lv_iconst (v := 2) hx hb dL_law_774 (by decide) ?_
  refine lv_iadd hx hb dL_law_775 ?_
  refine va_sld hx hb hXs hbl hbA hS hn2 dL_law_776 ?_
  refine lv_aload_n hx hb dL_law_777 rfl (lv_at hl 2 rfl) ?_
  refine lv_iload hx hb dL_law_778 (lv_at hl 1 rfl) ?_
  refine lv_iconst (v := 3) hx hb dL_law_780 (by decide) ?_
  refine lv_iadd hx hb dL_law_781 ?_
  refine va_sld hx hb hXs hbl hbA hS hn3 dL_law_782 ?_
  refine lMi (wx1 ++ [(o, cO cL f1)]) (As := [.int (xs (nI i + 1).toNatClampNeg), .int (xs (nI i + 2).toNatClampNeg), .int (xs (nI i + 3).toNatClampNeg)]) (rest := []) ⟨hx, hb, hml, hown, hts⟩ hM (cwV 3 hts gL_law_X5_ifLoaded rfl rfl rfl (by decide +kernel) ⟨Nat.le_of_ble_eq_true rfl, Nat.le_of_ble_eq_true rfl⟩) (va_recv hK hP (ci := 5) rfl (at_mid _ _ _)) hP hK hD hN hS hA rfl hl.1 rfl (Nat.le_of_ble_eq_true rfl) dL_law_783 ⟨hc, hs⟩ (fun H locs hP hD hS => ?_)
  refine lv_istore (lv' := [(6, .int b9), (5, .int k9), (4, .int (nI i)), (0, .ref b), (1, .ref Xp), (2, .ref (A 0)), (3, .ref o)]) hx hb dL_law_786 hl (by decide) rfl (fun ls hl => ?_)
  refine lv_aload_n hx hb dL_law_788 rfl (lv_at hl 5 rfl) ?_
  refine lMi (wx1 ++ [(o, cO cL f1)]) (As := []) (rest := []) ⟨hx, hb, hml, hown, hts⟩ (c_X5_thrown l E A G1 z1 a1 t1 r1 h1) (cwV 0 hts gL_law_X5_thrown rfl rfl rfl (by decide +kernel) ⟨Nat.le_of_ble_eq_true rfl, Nat.le_of_ble_eq_true rfl⟩) (va_recv hK hP (ci := 5) rfl (at_mid _ _ _)) hP hK hD hN hS hA rfl hl.1 rfl (Nat.le_of_ble_eq_true rfl) dL_law_789 ⟨hc, hs⟩ (fun H locs hP hD hS => ?_)
  refine lv_iload hx hb dL_law_792 (lv_at hl 1 rfl) ?_
  refine lv_icmp_eq (tgt := 799) hx hb dL_law_794 (by decide) (fun _ => ?_) (fun c9 => absurd hk c9)
  refine lv_iload hx hb dL_law_799 (lv_at hl 1 rfl) ?_
  refine lv_if_ne (tgt := 816) hx hb dL_law_801 (by decide) (fun _ => ?_) (fun c8 => ?_)
  · refine lv_goto (tgt := 999) hx hb dL_law_816 (by decide) ?_
    exact kk _ H locs ls hV1 hP hD hS (lv_sub hl [2, 3, 4, 5, 6] rfl)
  · refine lv_aload_n hx hb dL_law_804 rfl (lv_at hl 6 rfl) ?_
    refine lv_iconst (v := 0) hx hb dL_law_805 (by decide) ?_
    refine va_lald hx hb hKL hP wx1.length 0 (at_out _ _ _) rfl (by unfold vp_in; decide) dL_law_806 ?_
    refine lv_iload hx hb dL_law_807 (lv_at hl 0 rfl) ?_
    refine lv_i2l hx hb dL_law_809 (v := b9.toInt64) rfl ?_
    refine W.lcmp hx hb dL_law_810 ?_
    refine lv_if_eq (tgt := 816) hx hb dL_law_811 (by decide) (fun _ => ?_) (fun c7 => absurd ((lg_cmp_eq _ _).mpr (hf c8)) c7)
    refine lv_goto (tgt := 999) hx hb dL_law_816 (by decide) ?_
    exact kk _ H locs ls hV1 hP hD hS (lv_sub hl [2, 3, 4, 5, 6] rfl)
set_option maxHeartbeats 4000000 in
set_option maxRecDepth 100000 in
theorem lk_settles {p : Program} {l : Launch} {e : Env} {s : State} {m : MethodId} {below : List Frame} {meth : Method} {c : Code} {b L : Nat} {xs : Nat → Int32} {E : EE} {cL : ClassId} {T0 : Nat → Nat} {Xp o : Nat} {Bp Tp Cp Rp A : Nat → Nat} (C : LC p l s m c b L xs E cL T0) (hL : L ≤ 2048) {i : Nat} (hi : i + 4 ≤ L) {w : va_W} {H : Heap} {locs : List Loc} {cells slots : Nat} {ls : Array Slot} {Q : State → Prop} (hV : LV E cL Xp o Bp Tp Cp Rp A w) (hP : va_P E.1 vwCl w H) (hD : va_D (fun q => s.heap.size ≤ q) w) (hS : va_S (fun q => s.heap.size ≤ q) s.heap H locs) (hl : lv_has ls 9 [(4, .int (nI i)), (0, .ref b), (1, .ref Xp), (2, .ref (A 0)), (3, .ref o)]) (hc : cells + 1 ≤ room_1.cells) (hs : slots + 6 ≤ room_1.slots)
    (kk : ∀ (w1 : va_W) (H1 : Heap) (locs1 : List Loc) (ls1 : Array Slot), LV E cL Xp o Bp Tp Cp Rp A w1 → va_P E.1 vwCl w1 H1 → va_D (fun q => s.heap.size ≤ q) w1 → va_S (fun q => s.heap.size ≤ q) s.heap H1 locs1 → lv_has ls1 9 [(4, .int (nI i)), (0, .ref b), (1, .ref Xp), (2, .ref (A 0)), (3, .ref o)] → W p l e room_1 s m #[Value.ref b] below meth c H1 locs1 (cells + 1) (slots + 6) Q (F0 m 999 ls1 [])) : W p l e room_1 s m #[Value.ref b] below meth c H locs cells slots Q (F0 m 819 ls []) := by
  obtain ⟨hx, hb, hml, hown, hts, hXs, hbl, hK, hKL, hN, hX, hst⟩ := C
  obtain ⟨sz, nw, pf, g, lo, up, pk, g2, z2, lo2, up2, pk2, cd, G, z, a, r, h, f, Lb, rfl, hR, hLb, hG⟩ := LV_out hV
  have hA : ∀ q : Nat, s.heap.size ≤ q → (fun q : Nat => s.heap.size ≤ q) q := fun _ h => h
  have hbA : ¬ (fun q : Nat => s.heap.size ≤ q) b := Nat.not_le.mpr hbl
  have hn1 : vp_in (nI i + 1) L := by rw [show (1 : Int32) = nI 1 from rfl, nI_add]; exact vp_in_nI (by omega) (by omega)
  obtain ⟨wx1, f1, k9, b9, G1, z1, a1, t1, r1, h1, hW, hM, hk, hf, hV1⟩ := alt_settles (E := E) (cL := cL) (T0 := T0) (Xp := Xp) (o := o) (Bp := Bp) (Tp := Tp) (Cp := Cp) (Rp := Rp) (A := A) (g2 := g2) (z2 := z2) (lo2 := lo2) (up2 := up2) (pk2 := pk2) (cd := cd) (a := a) (r := r) (h := h) (f := f) hst hR hLb hG (xs (nI i + 1).toNatClampNeg)
  refine lv_aload_n hx hb dL_law_819 rfl (lv_at hl 2 rfl) ?_
  refine lv_aload_n hx hb dL_law_820 rfl (lv_at hl 1 rfl) ?_
  refine lv_iload hx hb dL_law_821 (lv_at hl 0 rfl) ?_
  refine lv_iconst (v := 1) hx hb dL_law_823 (by decide) ?_
  refine lv_iadd hx hb dL_law_824 ?_
  refine va_sld hx hb hXs hbl hbA hS hn1 dL_law_825 ?_
  refine lv_aload_n hx hb dL_law_826 rfl (lv_at hl 4 rfl) ?_
  refine lS (wM E A G z a cd r h) (As := [.ref Xp, .int (xs (nI i + 1).toNatClampNeg), .ref o]) (rest := []) ⟨hx, hb, hml, hown, hts⟩ hW (vx_cwSW 3 hts gL_law_L_settles rfl rfl rfl (by decide +kernel) ⟨Nat.le_of_ble_eq_true rfl, Nat.le_of_ble_eq_true rfl⟩) hP hK hKL hD hN hX hS hA rfl hl.1 rfl (Nat.le_of_ble_eq_true rfl) dL_law_827 ⟨hc, hs⟩ (fun H locs hP hD hS => ?_)
  refine lv_istore (lv' := [(5, .int k9), (4, .int (nI i)), (0, .ref b), (1, .ref Xp), (2, .ref (A 0)), (3, .ref o)]) hx hb dL_law_830 hl (by decide) rfl (fun ls hl => ?_)
  refine lv_aload_n hx hb dL_law_832 rfl (lv_at hl 4 rfl) ?_
  refine lv_aload_n hx hb dL_law_833 rfl (lv_at hl 2 rfl) ?_
  refine lv_iload hx hb dL_law_834 (lv_at hl 1 rfl) ?_
  refine lv_iconst (v := 1) hx hb dL_law_836 (by decide) ?_
  refine lv_iadd hx hb dL_law_837 ?_
  refine va_sld hx hb hXs hbl hbA hS hn1 dL_law_838 ?_
  refine lMi (wx1 ++ [(o, cO cL f1)]) (As := [.int (xs (nI i + 1).toNatClampNeg)]) (rest := []) ⟨hx, hb, hml, hown, hts⟩ hM (cwV 1 hts gL_law_X5_settles rfl rfl rfl (by decide +kernel) ⟨Nat.le_of_ble_eq_true rfl, Nat.le_of_ble_eq_true rfl⟩) (va_recv hK hP (ci := 5) rfl (at_mid _ _ _)) hP hK hD hN hS hA rfl hl.1 rfl (Nat.le_of_ble_eq_true rfl) dL_law_839 ⟨hc, hs⟩ (fun H locs hP hD hS => ?_)
  refine lv_istore (lv' := [(6, .int b9), (5, .int k9), (4, .int (nI i)), (0, .ref b), (1, .ref Xp), (2, .ref (A 0)), (3, .ref o)]) hx hb dL_law_842 hl (by decide) rfl (fun ls hl => ?_)
  refine lv_aload_n hx hb dL_law_844 rfl (lv_at hl 5 rfl) ?_
  refine lMi (wx1 ++ [(o, cO cL f1)]) (As := []) (rest := []) ⟨hx, hb, hml, hown, hts⟩ (c_X5_thrown l E A G1 z1 a1 t1 r1 h1) (cwV 0 hts gL_law_X5_thrown rfl rfl rfl (by decide +kernel) ⟨Nat.le_of_ble_eq_true rfl, Nat.le_of_ble_eq_true rfl⟩) (va_recv hK hP (ci := 5) rfl (at_mid _ _ _)) hP hK hD hN hS hA rfl hl.1 rfl (Nat.le_of_ble_eq_true rfl) dL_law_845 ⟨hc, hs⟩ (fun H locs hP hD hS => ?_)
  refine lv_iload hx hb dL_law_848 (lv_at hl 1 rfl) ?_
  refine lv_icmp_eq (tgt := 855) hx hb dL_law_850 (by decide) (fun _ => ?_) (fun c9 => absurd hk c9)
  refine lv_iload hx hb dL_law_855 (lv_at hl 1 rfl) ?_
  refine lv_if_ne (tgt := 872) hx hb dL_law_857 (by decide) (fun _ => ?_) (fun c8 => ?_)
  · refine lv_goto (tgt := 999) hx hb dL_law_872 (by decide) ?_
    exact kk _ H locs ls hV1 hP hD hS (lv_sub hl [2, 3, 4, 5, 6] rfl)
  · refine lv_aload_n hx hb dL_law_860 rfl (lv_at hl 6 rfl) ?_
    refine lv_iconst (v := 0) hx hb dL_law_861 (by decide) ?_
    refine va_lald hx hb hKL hP wx1.length 0 (at_out _ _ _) rfl (by unfold vp_in; decide) dL_law_862 ?_
    refine lv_iload hx hb dL_law_863 (lv_at hl 0 rfl) ?_
    refine lv_i2l hx hb dL_law_865 (v := b9.toInt64) rfl ?_
    refine W.lcmp hx hb dL_law_866 ?_
    refine lv_if_eq (tgt := 872) hx hb dL_law_867 (by decide) (fun _ => ?_) (fun c7 => absurd ((lg_cmp_eq _ _).mpr (hf c8)) c7)
    refine lv_goto (tgt := 999) hx hb dL_law_872 (by decide) ?_
    exact kk _ H locs ls hV1 hP hD hS (lv_sub hl [2, 3, 4, 5, 6] rfl)
set_option maxHeartbeats 4000000 in
set_option maxRecDepth 100000 in
theorem lk_greatestLoad {p : Program} {l : Launch} {e : Env} {s : State} {m : MethodId} {below : List Frame} {meth : Method} {c : Code} {b L : Nat} {xs : Nat → Int32} {E : EE} {cL : ClassId} {T0 : Nat → Nat} {Xp o : Nat} {Bp Tp Cp Rp A : Nat → Nat} (C : LC p l s m c b L xs E cL T0) (hL : L ≤ 2048) {i : Nat} (hi : i + 4 ≤ L) {w : va_W} {H : Heap} {locs : List Loc} {cells slots : Nat} {ls : Array Slot} {Q : State → Prop} (hV : LV E cL Xp o Bp Tp Cp Rp A w) (hP : va_P E.1 vwCl w H) (hD : va_D (fun q => s.heap.size ≤ q) w) (hS : va_S (fun q => s.heap.size ≤ q) s.heap H locs) (hl : lv_has ls 9 [(4, .int (nI i)), (0, .ref b), (1, .ref Xp), (2, .ref (A 0)), (3, .ref o)]) (hc : cells + 1 ≤ room_1.cells) (hs : slots + 6 ≤ room_1.slots)
    (kk : ∀ (w1 : va_W) (H1 : Heap) (locs1 : List Loc) (ls1 : Array Slot), LV E cL Xp o Bp Tp Cp Rp A w1 → va_P E.1 vwCl w1 H1 → va_D (fun q => s.heap.size ≤ q) w1 → va_S (fun q => s.heap.size ≤ q) s.heap H1 locs1 → lv_has ls1 9 [(4, .int (nI i)), (0, .ref b), (1, .ref Xp), (2, .ref (A 0)), (3, .ref o)] → W p l e room_1 s m #[Value.ref b] below meth c H1 locs1 (cells + 1) (slots + 6) Q (F0 m 999 ls1 [])) : W p l e room_1 s m #[Value.ref b] below meth c H locs cells slots Q (F0 m 875 ls []) := by
  obtain ⟨hx, hb, hml, hown, hts, hXs, hbl, hK, hKL, hN, hX, hst⟩ := C
  obtain ⟨sz, nw, pf, g, lo, up, pk, g2, z2, lo2, up2, pk2, cd, G, z, a, r, h, f, Lb, rfl, hR, hLb, hG⟩ := LV_out hV
  have hA : ∀ q : Nat, s.heap.size ≤ q → (fun q : Nat => s.heap.size ≤ q) q := fun _ h => h
  have hbA : ¬ (fun q : Nat => s.heap.size ≤ q) b := Nat.not_le.mpr hbl
  have hn1 : vp_in (nI i + 1) L := by rw [show (1 : Int32) = nI 1 from rfl, nI_add]; exact vp_in_nI (by omega) (by omega)
  obtain ⟨wx1, f1, k9, b9, G1, z1, a1, t1, r1, h1, hW, hM, hk, hf, hV1⟩ := alt_greatestLoad (E := E) (cL := cL) (T0 := T0) (Xp := Xp) (o := o) (Bp := Bp) (Tp := Tp) (Cp := Cp) (Rp := Rp) (A := A) (g2 := g2) (z2 := z2) (lo2 := lo2) (up2 := up2) (pk2 := pk2) (cd := cd) (a := a) (r := r) (h := h) (f := f) hst hR hLb hG (xs (nI i + 1).toNatClampNeg)
  refine lv_aload_n hx hb dL_law_875 rfl (lv_at hl 2 rfl) ?_
  refine lv_aload_n hx hb dL_law_876 rfl (lv_at hl 1 rfl) ?_
  refine lv_iload hx hb dL_law_877 (lv_at hl 0 rfl) ?_
  refine lv_iconst (v := 1) hx hb dL_law_879 (by decide) ?_
  refine lv_iadd hx hb dL_law_880 ?_
  refine va_sld hx hb hXs hbl hbA hS hn1 dL_law_881 ?_
  refine lv_aload_n hx hb dL_law_882 rfl (lv_at hl 4 rfl) ?_
  refine lS (wM E A G z a cd r h) (As := [.ref Xp, .int (xs (nI i + 1).toNatClampNeg), .ref o]) (rest := []) ⟨hx, hb, hml, hown, hts⟩ hW (vx_cwSW 3 hts gL_law_L_greatestLoad rfl rfl rfl (by decide +kernel) ⟨Nat.le_of_ble_eq_true rfl, Nat.le_of_ble_eq_true rfl⟩) hP hK hKL hD hN hX hS hA rfl hl.1 rfl (Nat.le_of_ble_eq_true rfl) dL_law_883 ⟨hc, hs⟩ (fun H locs hP hD hS => ?_)
  refine lv_istore (lv' := [(5, .int k9), (4, .int (nI i)), (0, .ref b), (1, .ref Xp), (2, .ref (A 0)), (3, .ref o)]) hx hb dL_law_886 hl (by decide) rfl (fun ls hl => ?_)
  refine lv_aload_n hx hb dL_law_888 rfl (lv_at hl 4 rfl) ?_
  refine lv_aload_n hx hb dL_law_889 rfl (lv_at hl 2 rfl) ?_
  refine lv_iload hx hb dL_law_890 (lv_at hl 1 rfl) ?_
  refine lv_iconst (v := 1) hx hb dL_law_892 (by decide) ?_
  refine lv_iadd hx hb dL_law_893 ?_
  refine va_sld hx hb hXs hbl hbA hS hn1 dL_law_894 ?_
  refine lMi (wx1 ++ [(o, cO cL f1)]) (As := [.int (xs (nI i + 1).toNatClampNeg)]) (rest := []) ⟨hx, hb, hml, hown, hts⟩ hM (cwV 1 hts gL_law_X5_greatestLoad rfl rfl rfl (by decide +kernel) ⟨Nat.le_of_ble_eq_true rfl, Nat.le_of_ble_eq_true rfl⟩) (va_recv hK hP (ci := 5) rfl (at_mid _ _ _)) hP hK hD hN hS hA rfl hl.1 rfl (Nat.le_of_ble_eq_true rfl) dL_law_895 ⟨hc, hs⟩ (fun H locs hP hD hS => ?_)
  refine lv_istore (lv' := [(6, .int b9), (5, .int k9), (4, .int (nI i)), (0, .ref b), (1, .ref Xp), (2, .ref (A 0)), (3, .ref o)]) hx hb dL_law_898 hl (by decide) rfl (fun ls hl => ?_)
  refine lv_aload_n hx hb dL_law_900 rfl (lv_at hl 5 rfl) ?_
  refine lMi (wx1 ++ [(o, cO cL f1)]) (As := []) (rest := []) ⟨hx, hb, hml, hown, hts⟩ (c_X5_thrown l E A G1 z1 a1 t1 r1 h1) (cwV 0 hts gL_law_X5_thrown rfl rfl rfl (by decide +kernel) ⟨Nat.le_of_ble_eq_true rfl, Nat.le_of_ble_eq_true rfl⟩) (va_recv hK hP (ci := 5) rfl (at_mid _ _ _)) hP hK hD hN hS hA rfl hl.1 rfl (Nat.le_of_ble_eq_true rfl) dL_law_901 ⟨hc, hs⟩ (fun H locs hP hD hS => ?_)
  refine lv_iload hx hb dL_law_904 (lv_at hl 1 rfl) ?_
  refine lv_icmp_eq (tgt := 911) hx hb dL_law_906 (by decide) (fun _ => ?_) (fun c9 => absurd hk c9)
  refine lv_iload hx hb dL_law_911 (lv_at hl 1 rfl) ?_
  refine lv_if_ne (tgt := 928) hx hb dL_law_913 (by decide) (fun _ => ?_) (fun c8 => ?_)
  · refine lv_goto (tgt := 999) hx hb dL_law_928 (by decide) ?_
    exact kk _ H locs ls hV1 hP hD hS (lv_sub hl [2, 3, 4, 5, 6] rfl)
  · refine lv_aload_n hx hb dL_law_916 rfl (lv_at hl 6 rfl) ?_
    refine lv_iconst (v := 0) hx hb dL_law_917 (by decide) ?_
    refine va_lald hx hb hKL hP wx1.length 0 (at_out _ _ _) rfl (by unfold vp_in; decide) dL_law_918 ?_
    refine lv_iload hx hb dL_law_919 (lv_at hl 0 rfl) ?_
    refine lv_i2l hx hb dL_law_921 (v := b9.toInt64) rfl ?_
    refine W.lcmp hx hb dL_law_922 ?_
    refine lv_if_eq (tgt := 928) hx hb dL_law_923 (by decide) (fun _ => ?_) (fun c7 => absurd ((lg_cmp_eq _ _).mpr (hf c8)) c7)
    refine lv_goto (tgt := 999) hx hb dL_law_928 (by decide) ?_
    exact kk _ H locs ls hV1 hP hD hS (lv_sub hl [2, 3, 4, 5, 6] rfl)
set_option maxHeartbeats 4000000 in
set_option maxRecDepth 100000 in
theorem lk_unbalance {p : Program} {l : Launch} {e : Env} {s : State} {m : MethodId} {below : List Frame} {meth : Method} {c : Code} {b L : Nat} {xs : Nat → Int32} {E : EE} {cL : ClassId} {T0 : Nat → Nat} {Xp o : Nat} {Bp Tp Cp Rp A : Nat → Nat} (C : LC p l s m c b L xs E cL T0) (hL : L ≤ 2048) {i : Nat} (hi : i + 4 ≤ L) {w : va_W} {H : Heap} {locs : List Loc} {cells slots : Nat} {ls : Array Slot} {Q : State → Prop} (hV : LV E cL Xp o Bp Tp Cp Rp A w) (hP : va_P E.1 vwCl w H) (hD : va_D (fun q => s.heap.size ≤ q) w) (hS : va_S (fun q => s.heap.size ≤ q) s.heap H locs) (hl : lv_has ls 9 [(4, .int (nI i)), (0, .ref b), (1, .ref Xp), (2, .ref (A 0)), (3, .ref o)]) (hc : cells + 1 ≤ room_1.cells) (hs : slots + 6 ≤ room_1.slots)
    (kk : ∀ (w1 : va_W) (H1 : Heap) (locs1 : List Loc) (ls1 : Array Slot), LV E cL Xp o Bp Tp Cp Rp A w1 → va_P E.1 vwCl w1 H1 → va_D (fun q => s.heap.size ≤ q) w1 → va_S (fun q => s.heap.size ≤ q) s.heap H1 locs1 → lv_has ls1 9 [(4, .int (nI i)), (0, .ref b), (1, .ref Xp), (2, .ref (A 0)), (3, .ref o)] → W p l e room_1 s m #[Value.ref b] below meth c H1 locs1 (cells + 1) (slots + 6) Q (F0 m 999 ls1 [])) : W p l e room_1 s m #[Value.ref b] below meth c H locs cells slots Q (F0 m 931 ls []) := by
  obtain ⟨hx, hb, hml, hown, hts, hXs, hbl, hK, hKL, hN, hX, hst⟩ := C
  obtain ⟨sz, nw, pf, g, lo, up, pk, g2, z2, lo2, up2, pk2, cd, G, z, a, r, h, f, Lb, rfl, hR, hLb, hG⟩ := LV_out hV
  have hA : ∀ q : Nat, s.heap.size ≤ q → (fun q : Nat => s.heap.size ≤ q) q := fun _ h => h
  have hbA : ¬ (fun q : Nat => s.heap.size ≤ q) b := Nat.not_le.mpr hbl
  have hM := c_X4_unbalance l E Xp Cp sz nw pf Bp g z lo up pk Tp g2 z2 lo2 up2 pk2 Rp (nI Lb) cd hR.1.1
  have hm := c_X5_unbalance l E A G z a cd r h hR.1.1
  refine lv_aload_n hx hb dL_law_931 rfl (lv_at hl 2 rfl) ?_
  refine lCi [(o, cO cL f)] (wM E A G z a cd r h) (As := []) (rest := []) ⟨hx, hb, hml, hown, hts⟩ hM (cwV 0 hts gL_law_X4_unbalance rfl rfl rfl (by decide +kernel) ⟨Nat.le_of_ble_eq_true rfl, Nat.le_of_ble_eq_true rfl⟩) (va_recv hK hP (ci := 4) (q0 := 0) rfl rfl) hP hK hD hN hS hA rfl hl.1 rfl (Nat.le_of_ble_eq_true rfl) dL_law_932 ⟨Nat.le_of_succ_le hc, by omega⟩ (fun H locs hP hD hS => ?_)
  refine lv_aload_n hx hb dL_law_935 rfl (lv_at hl 3 rfl) ?_
  refine lMi _ (As := []) (rest := _) ⟨hx, hb, hml, hown, hts⟩ hm (cwV 0 hts gL_law_X5_unbalance rfl rfl rfl (by decide +kernel) ⟨Nat.le_of_ble_eq_true rfl, Nat.le_of_ble_eq_true rfl⟩) (va_recv hK hP (ci := 5) rfl (at_mid _ _ _)) hP hK hD hN hS hA rfl hl.1 rfl (Nat.le_of_ble_eq_true rfl) dL_law_936 ⟨Nat.le_of_succ_le hc, by omega⟩ (fun H locs hP hD hS => ?_)
  refine lv_icmp_eq (tgt := 999) hx hb dL_law_939 (by decide) (fun _ => ?_) (fun c9 => absurd rfl c9)
  refine W.widen (k := cells + 1) (n := slots + 6) (by omega) (by omega) ?_
  exact kk _ H locs ls (LV_mk hR hLb (by rw [pk_un (by omega)]; exact hG)) hP hD hS hl
set_option maxHeartbeats 4000000 in
set_option maxRecDepth 100000 in
theorem lk_meanVoltage {p : Program} {l : Launch} {e : Env} {s : State} {m : MethodId} {below : List Frame} {meth : Method} {c : Code} {b L : Nat} {xs : Nat → Int32} {E : EE} {cL : ClassId} {T0 : Nat → Nat} {Xp o : Nat} {Bp Tp Cp Rp A : Nat → Nat} (C : LC p l s m c b L xs E cL T0) (hL : L ≤ 2048) {i : Nat} (hi : i + 4 ≤ L) {w : va_W} {H : Heap} {locs : List Loc} {cells slots : Nat} {ls : Array Slot} {Q : State → Prop} (hV : LV E cL Xp o Bp Tp Cp Rp A w) (hP : va_P E.1 vwCl w H) (hD : va_D (fun q => s.heap.size ≤ q) w) (hS : va_S (fun q => s.heap.size ≤ q) s.heap H locs) (hl : lv_has ls 9 [(4, .int (nI i)), (0, .ref b), (1, .ref Xp), (2, .ref (A 0)), (3, .ref o)]) (hc : cells + 1 ≤ room_1.cells) (hs : slots + 6 ≤ room_1.slots)
    (kk : ∀ (w1 : va_W) (H1 : Heap) (locs1 : List Loc) (ls1 : Array Slot), LV E cL Xp o Bp Tp Cp Rp A w1 → va_P E.1 vwCl w1 H1 → va_D (fun q => s.heap.size ≤ q) w1 → va_S (fun q => s.heap.size ≤ q) s.heap H1 locs1 → lv_has ls1 9 [(4, .int (nI i)), (0, .ref b), (1, .ref Xp), (2, .ref (A 0)), (3, .ref o)] → W p l e room_1 s m #[Value.ref b] below meth c H1 locs1 (cells + 1) (slots + 6) Q (F0 m 999 ls1 [])) : W p l e room_1 s m #[Value.ref b] below meth c H locs cells slots Q (F0 m 944 ls []) := by
  obtain ⟨hx, hb, hml, hown, hts, hXs, hbl, hK, hKL, hN, hX, hst⟩ := C
  obtain ⟨sz, nw, pf, g, lo, up, pk, g2, z2, lo2, up2, pk2, cd, G, z, a, r, h, f, Lb, rfl, hR, hLb, hG⟩ := LV_out hV
  have hA : ∀ q : Nat, s.heap.size ≤ q → (fun q : Nat => s.heap.size ≤ q) q := fun _ h => h
  have hbA : ¬ (fun q : Nat => s.heap.size ≤ q) b := Nat.not_le.mpr hbl
  obtain ⟨hrk, h31, hrec⟩ := id hR.2.2.2.2.2
  dsimp only at hrk h31 hrec
  have hM := c_X4_meanVoltage l E Xp Cp sz nw pf Bp g z lo up pk Tp g2 z2 lo2 up2 pk2 Rp (nI Lb) cd hrk
  have hm := c_X5_meanVoltage l E A G z a cd r h sz.toNatClampNeg (h31.trans hrk.2.2.1) hrk.2.2.2
  rw [smL_congr (f := fun i => pf ((nw.toNatClampNeg + 16 - i) % 16 * 6 + 0)) (y := fun i => z (63 + 6 * i)) sz.toNatClampNeg 0 0 (fun k9 _ h9 => hrec k9 0 (by omega) (by omega))] at hM
  generalize mvD sz.toNatClampNeg (smL (fun i => z (63 + 6 * i)) sz.toNatClampNeg 0 0) = d9 at hM hm
  refine lv_aload_n hx hb dL_law_944 rfl (lv_at hl 2 rfl) ?_
  refine lCd [(o, cO cL f)] (wM E A G z a cd r h) (As := []) (rest := []) ⟨hx, hb, hml, hown, hts⟩ hM (cwV 0 hts gL_law_X4_meanVoltage rfl rfl rfl (by decide +kernel) ⟨Nat.le_of_ble_eq_true rfl, Nat.le_of_ble_eq_true rfl⟩) (va_recv hK hP (ci := 4) (q0 := 0) rfl rfl) hP hK hD hN hS hA rfl hl.1 rfl (Nat.le_of_ble_eq_true rfl) dL_law_945 ⟨Nat.le_of_succ_le hc, by omega⟩ (fun H locs hP hD hS => ?_)
  refine lv_dstore (lv' := [(5, .double d9), (4, .int (nI i)), (0, .ref b), (1, .ref Xp), (2, .ref (A 0)), (3, .ref o)]) hx hb dL_law_948 hl (by decide) rfl (fun ls hl => ?_)
  refine lv_aload_n hx hb dL_law_950 rfl (lv_at hl 4 rfl) ?_
  refine lMd _ (As := []) (rest := []) ⟨hx, hb, hml, hown, hts⟩ hm (cwV 0 hts gL_law_X5_meanVoltage rfl rfl rfl (by decide +kernel) ⟨Nat.le_of_ble_eq_true rfl, Nat.le_of_ble_eq_true rfl⟩) (va_recv hK hP (ci := 5) rfl (at_mid _ _ _)) hP hK hD hN hS hA rfl hl.1 rfl (Nat.le_of_ble_eq_true rfl) dL_law_951 ⟨Nat.le_of_succ_le hc, by omega⟩ (fun H locs hP hD hS => ?_)
  refine lv_dstore (lv' := [(7, .double d9), (5, .double d9), (4, .int (nI i)), (0, .ref b), (1, .ref Xp), (2, .ref (A 0)), (3, .ref o)]) hx hb dL_law_954 hl (by decide) rfl (fun ls hl => ?_)
  refine lv_dload hx hb dL_law_956 (lv_at hl 1 rfl) ?_
  refine lv_dload hx hb dL_law_958 (lv_at hl 0 rfl) ?_
  refine lv_dcmp hx hb dL_law_960 ?_
  refine lv_if_eq (tgt := 982) hx hb dL_law_961 (by decide) (fun _ => ?_) (fun c9 => ?_)
  · refine lv_goto (tgt := 999) hx hb dL_law_982 (by decide) ?_
    refine W.widen (k := cells + 1) (n := slots + 6) (by omega) (by omega) ?_
    exact kk _ H locs ls (LV_mk hR hLb (by rw [pk_un (by omega)]; exact hG)) hP hD hS (lv_sub hl [2, 3, 4, 5, 6] rfl)
  · refine lv_dload hx hb dL_law_964 (lv_at hl 1 rfl) ?_
    refine lv_dload hx hb dL_law_966 (lv_at hl 1 rfl) ?_
    refine lv_dcmp hx hb dL_law_968 ?_
    refine lv_if_eq (tgt := 980) hx hb dL_law_969 (by decide) (fun c8 => absurd c8 c9) (fun _ => ?_)
    refine lv_dload hx hb dL_law_972 (lv_at hl 0 rfl) ?_
    refine lv_dload hx hb dL_law_974 (lv_at hl 0 rfl) ?_
    refine lv_dcmp hx hb dL_law_976 ?_
    refine lv_if_ne (tgt := 982) hx hb dL_law_977 (by decide) (fun _ => ?_) (fun c8 => absurd c8 c9)
    refine lv_goto (tgt := 999) hx hb dL_law_982 (by decide) ?_
    refine W.widen (k := cells + 1) (n := slots + 6) (by omega) (by omega) ?_
    exact kk _ H locs ls (LV_mk hR hLb (by rw [pk_un (by omega)]; exact hG)) hP hD hS (lv_sub hl [2, 3, 4, 5, 6] rfl)
set_option maxHeartbeats 4000000 in
set_option maxRecDepth 100000 in
theorem lk_digest {p : Program} {l : Launch} {e : Env} {s : State} {m : MethodId} {below : List Frame} {meth : Method} {c : Code} {b L : Nat} {xs : Nat → Int32} {E : EE} {cL : ClassId} {T0 : Nat → Nat} {Xp o : Nat} {Bp Tp Cp Rp A : Nat → Nat} (C : LC p l s m c b L xs E cL T0) (hL : L ≤ 2048) {i : Nat} (hi : i + 4 ≤ L) {w : va_W} {H : Heap} {locs : List Loc} {cells slots : Nat} {ls : Array Slot} {Q : State → Prop} (hV : LV E cL Xp o Bp Tp Cp Rp A w) (hP : va_P E.1 vwCl w H) (hD : va_D (fun q => s.heap.size ≤ q) w) (hS : va_S (fun q => s.heap.size ≤ q) s.heap H locs) (hl : lv_has ls 9 [(4, .int (nI i)), (0, .ref b), (1, .ref Xp), (2, .ref (A 0)), (3, .ref o)]) (hc : cells + 1 ≤ room_1.cells) (hs : slots + 6 ≤ room_1.slots)
    (kk : ∀ (w1 : va_W) (H1 : Heap) (locs1 : List Loc) (ls1 : Array Slot), LV E cL Xp o Bp Tp Cp Rp A w1 → va_P E.1 vwCl w1 H1 → va_D (fun q => s.heap.size ≤ q) w1 → va_S (fun q => s.heap.size ≤ q) s.heap H1 locs1 → lv_has ls1 9 [(4, .int (nI i)), (0, .ref b), (1, .ref Xp), (2, .ref (A 0)), (3, .ref o)] → W p l e room_1 s m #[Value.ref b] below meth c H1 locs1 (cells + 1) (slots + 6) Q (F0 m 999 ls1 [])) : W p l e room_1 s m #[Value.ref b] below meth c H locs cells slots Q (F0 m 985 ls []) := by
  obtain ⟨hx, hb, hml, hown, hts, hXs, hbl, hK, hKL, hN, hX, hst⟩ := C
  obtain ⟨sz, nw, pf, g, lo, up, pk, g2, z2, lo2, up2, pk2, cd, G, z, a, r, h, f, Lb, rfl, hR, hLb, hG⟩ := LV_out hV
  have hA : ∀ q : Nat, s.heap.size ≤ q → (fun q : Nat => s.heap.size ≤ q) q := fun _ h => h
  have hbA : ¬ (fun q : Nat => s.heap.size ≤ q) b := Nat.not_le.mpr hbl
  have hpk : 0 ≤ pk := by
    have q1 : pk = z 27 := hR.2.2.2.1.2.1
    rw [q1]; exact hR.2.2.2.1.2.2
  obtain ⟨hrk, h31, -⟩ := id hR.2.2.2.2.2
  dsimp only at hrk h31
  have hM := c_X4_digest l E Xp Cp sz nw pf Bp g z lo up pk Tp g2 z2 lo2 up2 pk2 Rp (nI Lb) cd Lb rfl hLb hR.2.1 hR.1.1 hR.1.2.1 hrk
  have hm := c_X5_digest l E A G z a cd r h sz.toNatClampNeg Lb hR.1.1 (h31.trans hrk.2.2.1) hrk.2.2.2 hG hLb
  rw [dg_eq hR, stR_eq (G := upd G 0 0) hR.1.1 hpk (by decide) (by decide) hR.2.2.2.2.1] at hM
  have g3 : (stU 50 z (upd G 0 0)).2.2 3 = nI Lb := by rw [stU_G (by omega) (by omega) (by omega), pk_un (by omega)]; exact hG
  rw [g3] at hm
  generalize dgZ z cd sz.toNatClampNeg Lb (stR 50 z (upd G 0 0)) (unlike z) (nI Lb) = d9 at hM hm
  generalize (stU 50 z (upd G 0 0)).2.2 = U at hm g3
  generalize stC 50 (z 1) 202 1 0 (z, lo, up, pk) = P at hM
  refine lv_aload_n hx hb dL_law_985 rfl (lv_at hl 2 rfl) ?_
  refine lCj [(o, cO cL f)] (wM E A G z a cd r h) (As := []) (rest := []) ⟨hx, hb, hml, hown, hts⟩ hM (cwV 0 hts gL_law_X4_digest rfl rfl rfl (by decide +kernel) ⟨Nat.le_of_ble_eq_true rfl, Nat.le_of_ble_eq_true rfl⟩) (va_recv hK hP (ci := 4) (q0 := 0) rfl rfl) hP hK hD hN hS hA rfl hl.1 rfl (Nat.le_of_ble_eq_true rfl) dL_law_986 ⟨Nat.le_of_succ_le hc, by omega⟩ (fun H locs hP hD hS => ?_)
  refine lv_aload_n hx hb dL_law_989 rfl (lv_at hl 3 rfl) ?_
  refine lMj _ (As := []) (rest := _) ⟨hx, hb, hml, hown, hts⟩ hm (cwV 0 hts gL_law_X5_digest rfl rfl rfl (by decide +kernel) ⟨Nat.le_of_ble_eq_true rfl, Nat.le_of_ble_eq_true rfl⟩) (va_recv hK hP (ci := 5) rfl (at_mid _ _ _)) hP hK hD hN hS hA rfl hl.1 rfl (Nat.le_of_ble_eq_true rfl) dL_law_990 ⟨Nat.le_of_succ_le hc, by omega⟩ (fun H locs hP hD hS => ?_)
  refine W.lcmp hx hb dL_law_993 ?_
  refine lv_if_eq (tgt := 999) hx hb dL_law_994 (by decide) (fun _ => ?_) (fun c9 => absurd ((lg_cmp_eq _ _).mpr rfl) c9)
  refine W.widen (k := cells + 1) (n := slots + 6) (by omega) (by omega) ?_
  exact kk _ H locs ls (LV_mk hR hLb g3) hP hD hS hl
