section
-- ===== PART A: goes FIRST, ahead of the names: the tables' words, and 'selects' of the private methods out of them =====
/-- a private method of a class that the tables say can be made, by its rows of tables_1 -/
def lw_okq (q : MethodName × Nat) : Prop := (q.1.cls ≠ "java/lang/invoke/MethodHandle" ∧ q.1.cls ≠ "java/lang/invoke/VarHandle") ∧ Cond.instantiable q.1.cls q.2 ∈ tables_1 ∧ Cond.privateMethod q.1 ∈ tables_1 ∧ Cond.instanceMethod q.1 ∈ tables_1
theorem lw_p0 : lw_okq (⟨"PhaseConverter", "number", "(I)I"⟩, 4) := ⟨⟨by decide +kernel, by decide +kernel⟩, List.mem_of_getElem? (i := 16) (by decide +kernel), List.mem_of_getElem? (i := 245) (by decide +kernel), List.mem_of_getElem? (i := 246) (by decide +kernel)⟩
theorem lw_p1 : lw_okq (⟨"java/lang/Throwable", "fillInStackTrace", "(I)Ljava/lang/Throwable;"⟩, 6) := ⟨⟨by decide +kernel, by decide +kernel⟩, List.mem_of_getElem? (i := 311) (by decide +kernel), List.mem_of_getElem? (i := 309) (by decide +kernel), List.mem_of_getElem? (i := 310) (by decide +kernel)⟩
theorem lw_p2 : lw_okq (⟨"PhaseConverter", "beginTrial", "()V"⟩, 4) := ⟨⟨by decide +kernel, by decide +kernel⟩, List.mem_of_getElem? (i := 16) (by decide +kernel), List.mem_of_getElem? (i := 341) (by decide +kernel), List.mem_of_getElem? (i := 342) (by decide +kernel)⟩
theorem lw_p3 : lw_okq (⟨"PhaseConverter", "hasRoomFor", "(I)Z"⟩, 4) := ⟨⟨by decide +kernel, by decide +kernel⟩, List.mem_of_getElem? (i := 16) (by decide +kernel), List.mem_of_getElem? (i := 529) (by decide +kernel), List.mem_of_getElem? (i := 530) (by decide +kernel)⟩
theorem lw_p4 : lw_okq (⟨"PhaseConverter", "passCycles", "(I)V"⟩, 4) := ⟨⟨by decide +kernel, by decide +kernel⟩, List.mem_of_getElem? (i := 16) (by decide +kernel), List.mem_of_getElem? (i := 535) (by decide +kernel), List.mem_of_getElem? (i := 536) (by decide +kernel)⟩
theorem lw_p5 : lw_okq (⟨"PhaseConverter", "isPossible", "(II)Z"⟩, 4) := ⟨⟨by decide +kernel, by decide +kernel⟩, List.mem_of_getElem? (i := 16) (by decide +kernel), List.mem_of_getElem? (i := 571) (by decide +kernel), List.mem_of_getElem? (i := 572) (by decide +kernel)⟩
theorem lw_p6 : lw_okq (⟨"PhaseConverter", "carryOut", "(II)V"⟩, 4) := ⟨⟨by decide +kernel, by decide +kernel⟩, List.mem_of_getElem? (i := 16) (by decide +kernel), List.mem_of_getElem? (i := 578) (by decide +kernel), List.mem_of_getElem? (i := 579) (by decide +kernel)⟩
theorem lw_p7 : lw_okq (⟨"PhaseConverter", "holdsLevel", "(II)Z"⟩, 4) := ⟨⟨by decide +kernel, by decide +kernel⟩, List.mem_of_getElem? (i := 16) (by decide +kernel), List.mem_of_getElem? (i := 632) (by decide +kernel), List.mem_of_getElem? (i := 633) (by decide +kernel)⟩
theorem lw_p8 : lw_okq (⟨"PhaseConverterModel", "fresh", "(I)V"⟩, 15) := ⟨⟨by decide +kernel, by decide +kernel⟩, List.mem_of_getElem? (i := 636) (by decide +kernel), List.mem_of_getElem? (i := 642) (by decide +kernel), List.mem_of_getElem? (i := 643) (by decide +kernel)⟩
theorem lw_p9 : lw_okq (⟨"PhaseConverterModel", "runs", "()Z"⟩, 15) := ⟨⟨by decide +kernel, by decide +kernel⟩, List.mem_of_getElem? (i := 636) (by decide +kernel), List.mem_of_getElem? (i := 728) (by decide +kernel), List.mem_of_getElem? (i := 729) (by decide +kernel)⟩
theorem lw_p10 : lw_okq (⟨"PhaseConverterModel", "stopTo", "(I)V"⟩, 15) := ⟨⟨by decide +kernel, by decide +kernel⟩, List.mem_of_getElem? (i := 636) (by decide +kernel), List.mem_of_getElem? (i := 739) (by decide +kernel), List.mem_of_getElem? (i := 740) (by decide +kernel)⟩
theorem lw_p11 : lw_okq (⟨"PhaseConverterModel", "layExtremes", "()V"⟩, 15) := ⟨⟨by decide +kernel, by decide +kernel⟩, List.mem_of_getElem? (i := 636) (by decide +kernel), List.mem_of_getElem? (i := 748) (by decide +kernel), List.mem_of_getElem? (i := 749) (by decide +kernel)⟩
theorem lw_p12 : lw_okq (⟨"PhaseConverterModel", "cycle", "()V"⟩, 15) := ⟨⟨by decide +kernel, by decide +kernel⟩, List.mem_of_getElem? (i := 636) (by decide +kernel), List.mem_of_getElem? (i := 753) (by decide +kernel), List.mem_of_getElem? (i := 754) (by decide +kernel)⟩
theorem lw_p13 : lw_okq (⟨"PhaseConverterModel", "aim", "()V"⟩, 15) := ⟨⟨by decide +kernel, by decide +kernel⟩, List.mem_of_getElem? (i := 636) (by decide +kernel), List.mem_of_getElem? (i := 757) (by decide +kernel), List.mem_of_getElem? (i := 758) (by decide +kernel)⟩
theorem lw_p14 : lw_okq (⟨"PhaseConverterModel", "regulate", "()V"⟩, 15) := ⟨⟨by decide +kernel, by decide +kernel⟩, List.mem_of_getElem? (i := 636) (by decide +kernel), List.mem_of_getElem? (i := 761) (by decide +kernel), List.mem_of_getElem? (i := 762) (by decide +kernel)⟩
theorem lw_p15 : lw_okq (⟨"PhaseConverterModel", "choosePhases", "()V"⟩, 15) := ⟨⟨by decide +kernel, by decide +kernel⟩, List.mem_of_getElem? (i := 636) (by decide +kernel), List.mem_of_getElem? (i := 769) (by decide +kernel), List.mem_of_getElem? (i := 770) (by decide +kernel)⟩
def lw_privs_1 : List (MethodName × Nat) := [(⟨"PhaseConverter", "number", "(I)I"⟩, 4), (⟨"java/lang/Throwable", "fillInStackTrace", "(I)Ljava/lang/Throwable;"⟩, 6), (⟨"PhaseConverter", "beginTrial", "()V"⟩, 4), (⟨"PhaseConverter", "hasRoomFor", "(I)Z"⟩, 4), (⟨"PhaseConverter", "passCycles", "(I)V"⟩, 4), (⟨"PhaseConverter", "isPossible", "(II)Z"⟩, 4), (⟨"PhaseConverter", "carryOut", "(II)V"⟩, 4), (⟨"PhaseConverter", "holdsLevel", "(II)Z"⟩, 4), (⟨"PhaseConverterModel", "fresh", "(I)V"⟩, 15), (⟨"PhaseConverterModel", "runs", "()Z"⟩, 15), (⟨"PhaseConverterModel", "stopTo", "(I)V"⟩, 15), (⟨"PhaseConverterModel", "layExtremes", "()V"⟩, 15), (⟨"PhaseConverterModel", "cycle", "()V"⟩, 15), (⟨"PhaseConverterModel", "aim", "()V"⟩, 15), (⟨"PhaseConverterModel", "regulate", "()V"⟩, 15), (⟨"PhaseConverterModel", "choosePhases", "()V"⟩, 15)]
theorem lw_r1 : ∀ q ∈ lw_privs_1, lw_okq q := List.forall_mem_cons.mpr ⟨lw_p0, List.forall_mem_cons.mpr ⟨lw_p1, List.forall_mem_cons.mpr ⟨lw_p2, List.forall_mem_cons.mpr ⟨lw_p3, List.forall_mem_cons.mpr ⟨lw_p4, List.forall_mem_cons.mpr ⟨lw_p5, List.forall_mem_cons.mpr ⟨lw_p6, List.forall_mem_cons.mpr ⟨lw_p7, List.forall_mem_cons.mpr ⟨lw_p8, List.forall_mem_cons.mpr ⟨lw_p9, List.forall_mem_cons.mpr ⟨lw_p10, List.forall_mem_cons.mpr ⟨lw_p11, List.forall_mem_cons.mpr ⟨lw_p12, List.forall_mem_cons.mpr ⟨lw_p13, List.forall_mem_cons.mpr ⟨lw_p14, List.forall_mem_cons.mpr ⟨lw_p15, fun _ h => absurd h List.not_mem_nil⟩⟩⟩⟩⟩⟩⟩⟩⟩⟩⟩⟩⟩⟩⟩⟩
theorem lw_p16 : lw_okq (⟨"PhaseConverterModel", "changePhases", "(I)V"⟩, 15) := ⟨⟨by decide +kernel, by decide +kernel⟩, List.mem_of_getElem? (i := 636) (by decide +kernel), List.mem_of_getElem? (i := 773) (by decide +kernel), List.mem_of_getElem? (i := 774) (by decide +kernel)⟩
theorem lw_p17 : lw_okq (⟨"PhaseConverterModel", "slot", "(II)V"⟩, 15) := ⟨⟨by decide +kernel, by decide +kernel⟩, List.mem_of_getElem? (i := 636) (by decide +kernel), List.mem_of_getElem? (i := 777) (by decide +kernel), List.mem_of_getElem? (i := 778) (by decide +kernel)⟩
theorem lw_p18 : lw_okq (⟨"PhaseConverterModel", "beginPulse", "(II)V"⟩, 15) := ⟨⟨by decide +kernel, by decide +kernel⟩, List.mem_of_getElem? (i := 636) (by decide +kernel), List.mem_of_getElem? (i := 781) (by decide +kernel), List.mem_of_getElem? (i := 782) (by decide +kernel)⟩
theorem lw_p19 : lw_okq (⟨"PhaseConverterModel", "sum", "(I)I"⟩, 15) := ⟨⟨by decide +kernel, by decide +kernel⟩, List.mem_of_getElem? (i := 636) (by decide +kernel), List.mem_of_getElem? (i := 785) (by decide +kernel), List.mem_of_getElem? (i := 786) (by decide +kernel)⟩
theorem lw_p20 : lw_okq (⟨"PhaseConverterModel", "step", "(I)V"⟩, 15) := ⟨⟨by decide +kernel, by decide +kernel⟩, List.mem_of_getElem? (i := 636) (by decide +kernel), List.mem_of_getElem? (i := 789) (by decide +kernel), List.mem_of_getElem? (i := 790) (by decide +kernel)⟩
theorem lw_p21 : lw_okq (⟨"PhaseConverterModel", "record", "(I)V"⟩, 15) := ⟨⟨by decide +kernel, by decide +kernel⟩, List.mem_of_getElem? (i := 636) (by decide +kernel), List.mem_of_getElem? (i := 794) (by decide +kernel), List.mem_of_getElem? (i := 795) (by decide +kernel)⟩
theorem lw_p22 : lw_okq (⟨"PhaseConverterModel", "readText", "()I"⟩, 15) := ⟨⟨by decide +kernel, by decide +kernel⟩, List.mem_of_getElem? (i := 636) (by decide +kernel), List.mem_of_getElem? (i := 810) (by decide +kernel), List.mem_of_getElem? (i := 811) (by decide +kernel)⟩
theorem lw_p23 : lw_okq (⟨"PhaseConverterModel", "takes", "(I)Z"⟩, 15) := ⟨⟨by decide +kernel, by decide +kernel⟩, List.mem_of_getElem? (i := 636) (by decide +kernel), List.mem_of_getElem? (i := 814) (by decide +kernel), List.mem_of_getElem? (i := 815) (by decide +kernel)⟩
theorem lw_p24 : lw_okq (⟨"PhaseConverterModel", "takesSign", "(I)Z"⟩, 15) := ⟨⟨by decide +kernel, by decide +kernel⟩, List.mem_of_getElem? (i := 636) (by decide +kernel), List.mem_of_getElem? (i := 818) (by decide +kernel), List.mem_of_getElem? (i := 819) (by decide +kernel)⟩
theorem lw_p25 : lw_okq (⟨"PhaseConverterModel", "endItem", "()V"⟩, 15) := ⟨⟨by decide +kernel, by decide +kernel⟩, List.mem_of_getElem? (i := 636) (by decide +kernel), List.mem_of_getElem? (i := 822) (by decide +kernel), List.mem_of_getElem? (i := 823) (by decide +kernel)⟩
theorem lw_p26 : lw_okq (⟨"PhaseConverterModel", "does", "(II)Z"⟩, 15) := ⟨⟨by decide +kernel, by decide +kernel⟩, List.mem_of_getElem? (i := 636) (by decide +kernel), List.mem_of_getElem? (i := 830) (by decide +kernel), List.mem_of_getElem? (i := 831) (by decide +kernel)⟩
theorem lw_p27 : lw_okq (⟨"PhaseConverterModel", "keep", "()V"⟩, 15) := ⟨⟨by decide +kernel, by decide +kernel⟩, List.mem_of_getElem? (i := 636) (by decide +kernel), List.mem_of_getElem? (i := 857) (by decide +kernel), List.mem_of_getElem? (i := 858) (by decide +kernel)⟩
theorem lw_p28 : lw_okq (⟨"PhaseConverterModel", "takeBack", "()V"⟩, 15) := ⟨⟨by decide +kernel, by decide +kernel⟩, List.mem_of_getElem? (i := 636) (by decide +kernel), List.mem_of_getElem? (i := 861) (by decide +kernel), List.mem_of_getElem? (i := 862) (by decide +kernel)⟩
theorem lw_p29 : lw_okq (⟨"PhaseConverterModel", "settledAt", "(I)I"⟩, 15) := ⟨⟨by decide +kernel, by decide +kernel⟩, List.mem_of_getElem? (i := 636) (by decide +kernel), List.mem_of_getElem? (i := 869) (by decide +kernel), List.mem_of_getElem? (i := 870) (by decide +kernel)⟩
theorem lw_p30 : lw_okq (⟨"PhaseConverterModel", "holds", "(II)Z"⟩, 15) := ⟨⟨by decide +kernel, by decide +kernel⟩, List.mem_of_getElem? (i := 636) (by decide +kernel), List.mem_of_getElem? (i := 877) (by decide +kernel), List.mem_of_getElem? (i := 878) (by decide +kernel)⟩
theorem lw_p31 : lw_okq (⟨"PhaseConverterModel", "unlike", "()I"⟩, 15) := ⟨⟨by decide +kernel, by decide +kernel⟩, List.mem_of_getElem? (i := 636) (by decide +kernel), List.mem_of_getElem? (i := 885) (by decide +kernel), List.mem_of_getElem? (i := 886) (by decide +kernel)⟩
def lw_privs_2 : List (MethodName × Nat) := [(⟨"PhaseConverterModel", "changePhases", "(I)V"⟩, 15), (⟨"PhaseConverterModel", "slot", "(II)V"⟩, 15), (⟨"PhaseConverterModel", "beginPulse", "(II)V"⟩, 15), (⟨"PhaseConverterModel", "sum", "(I)I"⟩, 15), (⟨"PhaseConverterModel", "step", "(I)V"⟩, 15), (⟨"PhaseConverterModel", "record", "(I)V"⟩, 15), (⟨"PhaseConverterModel", "readText", "()I"⟩, 15), (⟨"PhaseConverterModel", "takes", "(I)Z"⟩, 15), (⟨"PhaseConverterModel", "takesSign", "(I)Z"⟩, 15), (⟨"PhaseConverterModel", "endItem", "()V"⟩, 15), (⟨"PhaseConverterModel", "does", "(II)Z"⟩, 15), (⟨"PhaseConverterModel", "keep", "()V"⟩, 15), (⟨"PhaseConverterModel", "takeBack", "()V"⟩, 15), (⟨"PhaseConverterModel", "settledAt", "(I)I"⟩, 15), (⟨"PhaseConverterModel", "holds", "(II)Z"⟩, 15), (⟨"PhaseConverterModel", "unlike", "()I"⟩, 15)]
theorem lw_r2 : ∀ q ∈ lw_privs_2, lw_okq q := List.forall_mem_cons.mpr ⟨lw_p16, List.forall_mem_cons.mpr ⟨lw_p17, List.forall_mem_cons.mpr ⟨lw_p18, List.forall_mem_cons.mpr ⟨lw_p19, List.forall_mem_cons.mpr ⟨lw_p20, List.forall_mem_cons.mpr ⟨lw_p21, List.forall_mem_cons.mpr ⟨lw_p22, List.forall_mem_cons.mpr ⟨lw_p23, List.forall_mem_cons.mpr ⟨lw_p24, List.forall_mem_cons.mpr ⟨lw_p25, List.forall_mem_cons.mpr ⟨lw_p26, List.forall_mem_cons.mpr ⟨lw_p27, List.forall_mem_cons.mpr ⟨lw_p28, List.forall_mem_cons.mpr ⟨lw_p29, List.forall_mem_cons.mpr ⟨lw_p30, List.forall_mem_cons.mpr ⟨lw_p31, fun _ h => absurd h List.not_mem_nil⟩⟩⟩⟩⟩⟩⟩⟩⟩⟩⟩⟩⟩⟩⟩⟩
theorem lw_p32 : lw_okq (⟨"PhaseConverterModel", "mix", "(J)V"⟩, 15) := ⟨⟨by decide +kernel, by decide +kernel⟩, List.mem_of_getElem? (i := 636) (by decide +kernel), List.mem_of_getElem? (i := 898) (by decide +kernel), List.mem_of_getElem? (i := 899) (by decide +kernel)⟩
def lw_privs_3 : List (MethodName × Nat) := [(⟨"PhaseConverterModel", "mix", "(J)V"⟩, 15)]
theorem lw_r3 : ∀ q ∈ lw_privs_3, lw_okq q := List.forall_mem_cons.mpr ⟨lw_p32, fun _ h => absurd h List.not_mem_nil⟩
def lw_privs : List (MethodName × Nat) := lw_privs_1 ++ (lw_privs_2 ++ (lw_privs_3))
def lw_tbl : List Cond := k2_sels lw_privs ++ tables_1
theorem lw_privs_ok : ∀ q ∈ lw_privs, lw_okq q := by
  show ∀ q ∈ lw_privs_1 ++ (lw_privs_2 ++ (lw_privs_3)), lw_okq q
  exact List.forall_mem_append.mpr ⟨lw_r1, List.forall_mem_append.mpr ⟨lw_r2, lw_r3⟩⟩
/-- the streams that the claim lets the run draw from -/
abbrev lw_cs : List Choice := [Jvm.Choice.named "NaN.bits"]
theorem lw_bits : nanBits ∈ lw_cs := by first | decide | exact List.mem_cons_self | simp [lw_cs, nanBits]
end
section
/-! ===== BEGIN words of one list among another's, by their places ===== -/
theorem goodIn_r {big : List Cond} (ws : List Cond) (ps : List Nat) (hp : ws = ps.filterMap (fun i => big[i]?)) (h : ws.all goodWord = true) : GoodIn big ws := by
  intro w hw
  have h1 := List.all_eq_true.mp h w hw
  rw [hp] at hw
  obtain ⟨i, -, hi⟩ := List.mem_filterMap.mp hw
  have hm : w ∈ big := by first | exact List.mem_of_getElem? hi | exact List.getElem?_mem hi
  exact ⟨hm, good_of_word h1⟩
theorem goodIn_app {big a b : List Cond} (ha : GoodIn big a) (hb : GoodIn big b) : GoodIn big (a ++ b) := fun w h => (List.mem_append.mp h).elim (ha w) (hb w)
theorem goodIn_ca {big a b : List Cond} {c : Cond} (ha : GoodIn big (c :: a)) (hb : GoodIn big b) : GoodIn big (c :: (a ++ b)) := fun w h => (List.mem_cons.mp h).elim (fun e => ha w (List.mem_cons.mpr (Or.inl e))) (fun h => (List.mem_append.mp h).elim (fun h => ha w (List.mem_cons.mpr (Or.inr h))) (hb w))
theorem goodIn_sub {big ws : List Cond} (hm : ∀ w ∈ ws, w ∈ big) (h : ws.all goodWord = true) : GoodIn big ws := fun w hw => ⟨hm w hw, good_of_word (List.all_eq_true.mp h w hw)⟩
/-! ===== END ===== -/

/-! ===== BEGIN exceptions that leave a method, and their catching by the caller (launches without stack traces) ===== -/
section VXA
/-! The laws vx_back, vx_callV, vx_callS, vx_callSW, vx_throw0, vx_throwS follow proofs of the library, with one case more: JvmDerived/Free/Laws.lean (Back.of_free), Shelf42/LK1.lean (callV, callS), Shelf/KitTraced.lean (throwNew0V, throwNewS). -/
/-- where a method has thrown q: the class by its name, the cell, what was written, the world -/
def vx_T (XC : String → State → State → Prop) (st : State) (q : Addr) (t : State) (mc ms : Nat) (free : Addr → Prop) : Prop :=
  ∃ (E : String) (ce : Cell) (L : List Loc), XC E st t ∧ t.heap[q]? = some ce ∧ ce.vm = .none ∧ st.vm.findClass E = some ce.cls ∧ st.WarmedH t.vm ∧ st.sameButNew ({ t with vm := st.vm } : State) L mc ms ∧ ∀ z ∈ L, free z.base
def vx_Q (Qc : Array Value → State → Outcome → State → Prop) (XC : String → State → State → Prop) (mc ms : Nat) (free : Addr → Prop) : Array Value → State → Outcome → State → Prop := fun a st o t =>
  (Qc a st o t ∧ ∃ L, FrameEnd st o t L mc ms ∧ ∀ q ∈ L, free q.base) ∨ ∃ q, o = .threw q ∧ vx_T XC st q t mc ms free
/-- a callee that returns or throws -/
def vx_Met (l : Launch) (y : MethodName) (ws : List Cond) (rm : Room) (Pc : Array Value → State → Prop) (Qc : Array Value → State → Outcome → State → Prop) (XC : String → State → State → Prop) (mc ms : Nat) (free : Addr → Prop) : Prop :=
  MetFree l y (headSpec ws rm) Pc (fun _ _ _ _ _ => True) (vx_Q Qc XC mc ms free)
def vx_Post (XC : String → State → State → Prop) (mc ms : Nat) (free : Addr → Prop) : Pt → Array Value → Addr → Pt → Prop := fun A a q B =>
  ∃ (g : JFrame) (mk : MethodId) (t : State) (L : List Loc) (E : String) (ce : Cell), B.U.heap = t.heap ∧ B.U.vm = t.vm ∧ XC E (A.U.calling g mk a) t ∧ t.heap[q]? = some ce ∧ ce.vm = .none ∧ A.U.vm.findClass E = some ce.cls ∧ B.locs = A.locs ++ L ∧ (∀ z ∈ L, free z.base) ∧ B.cells = A.cells + mc ∧ B.slots = A.slots + ms
def vx_Back (l : Launch) (R : Room) (p : Program) (e : Env) (below : List Frame) (s : State) (sargs : Array Value) (y : MethodName) (len W9 : Nat)
    (Pre : Pt → Array Value → Prop) (Post : Pt → Array Value → Option Value → Pt → Prop) (PostX : Pt → Array Value → Addr → Pt → Prop) : Prop :=
  ∀ (m : MethodId) (meth : Method) (c : Code) (A : Pt) (g : JFrame) (ig : Instr) (mk : MethodId) (a : Array Value),
    Stand p l e R s m sargs below meth c A.U A.locs A.cells A.slots → g.method = m → g.locals.size = c.maxLocals → decode c.code g.pc = .ok (ig, len) →
    2 * g.monitorRoom + (g.stack.map fun v => v.category).sum ≤ W9 → A.U.methodNamed? y = some mk → Pre A a →
    (∃ (v : Option Value) (B : Pt), Stand p l e R s m sargs below meth c B.U B.locs B.cells B.slots ∧ Post A a v B ∧
      Steps p.tables e below (doInvoke e (A.U.setTop g) [] mk a).1 (B.U.setTop { g with pc := g.pc + len, stack := v.toList ++ g.stack })) ∨
    (∃ (q : Addr) (B : Pt), Stand p l e R s m sargs below meth c B.U B.locs B.cells B.slots ∧ PostX A a q B ∧
      Steps p.tables e below (doInvoke e (A.U.setTop g) [] mk a).1 ((B.U.setTop g).pushFrame (.throwing q)))
section Payer
variable {l : Launch} {R : Room} {p : Program} {e : Env} {below : List Frame} {s : State} {sargs : Array Value} {y : MethodName} {len W9 : Nat}
theorem vx_back {ws : List Cond} {rm : Room} {Pc : Array Value → State → Prop} {Qc : Array Value → State → Outcome → State → Prop} {XC : String → State → State → Prop} {mc ms : Nat} {free : Addr → Prop} {bytes : ByteArray} {maxL : Nat} {ret : Option FieldType}
    (hM : vx_Met l y ws rm Pc Qc XC mc ms free) (hblind : FrameBlind Pc) (hrc : rm.cells = mc) (hrs : rm.slots = ms)
    (hframes : rm.frames + 1 ≤ R.frames) (hlocals : W9 + (maxL + 11) + rm.locals ≤ R.locals)
    (hws : ∀ w ∈ ws, ∀ a' U, s.WarmedH U.vm → w.before a' U = true) (hcode : Cond.code y bytes maxL ret ∈ ws) (hinit : ∀ a' U, s.WarmedH U.vm → (Cond.initialized y.cls).before a' U = true) :
    vx_Back l R p e below s sargs y len W9 (PreOf R mc ms Pc) (PostOf Qc mc ms free) (vx_Post XC mc ms free) := by
  intro m meth c A g ig mk a X hg hsize hdg hW hn hp
  have h1 : (headSpec ws rm).pre.before a A.U = true := atoms_intro fun w hw => hws w hw _ _ X.warmed
  have h2 : (Cond.code y bytes maxL ret).before a A.U = true := hws _ hcode _ _ X.warmed
  have h3 : (Cond.initialized y.cls).before a A.U = true := hinit _ _ X.warmed
  have h4 : A.cells + (headSpec ws rm).room.cells ≤ R.cells := by rw [show (headSpec ws rm).room.cells = mc from hrc]; exact hp.1
  have h5 : A.slots + (headSpec ws rm).room.slots ≤ R.slots := by rw [show (headSpec ws rm).room.slots = ms from hrs]; exact hp.2.1
  have hPc : Pc a (A.U.calling g mk a) := hblind _ _ _ _ hp.2.2
  obtain ⟨U, Ls, c0, s0⟩ := A
  dsimp only [Pt.U, Pt.locs, Pt.cells, Pt.slots] at h1 h2 h3 h4 h5 X hn hPc ⊢
  obtain ⟨methY, cY, hmY, hcY, -, hlY, -, -, -, -⟩ := Cond.code_spec hn h2
  obtain ⟨kY, hkY, -⟩ := className_of_methodNamed hn
  have hinitY : kY.init = .initialized := Cond.initialized_spec (findClass_of_methodNamed hn) hkY h3
  have h : At U g.method c below := by rw [hg]; exact X.here
  have hlocals9 : W9 + (maxL + 11) + (headSpec ws rm).room.locals ≤ R.locals := hlocals
  have happ : (headSpec ws rm).appliesLoose y e.platform (U.calling g mk a) = true :=
    Spec.appliesLoose_calling (g := g) h hdg hn hkY hinitY
      (X.room_calling (g := g) (R' := (headSpec ws rm).room) hsize hmY hcY hframes (by rw [hlY]; omega) h4 h5) h1
  obtain ⟨mid, hmid⟩ := h.above
  have hfr : (U.setTop g).frames = (.java g :: mid) ++ below := by rw [State.frames_setTop' g h.top, hmid]; rfl
  obtain ⟨o, s₂, hsteps, -, hend, hq⟩ := Steps.callFree hM p X.admits X.cas X.clock (acts := []) hfr happ hPc trivial
  have hq' : vx_Q Qc XC mc ms free a (U.calling g mk a) o s₂ := hq
  rw [State.frames_setTop' g h.top] at hend
  obtain ⟨g₀, hg0⟩ := Option.isSome_iff_exists.mp h.top
  obtain ⟨r, hr⟩ := State.topJava?_eq_some.mp hg0
  have hr' : (({ U with heap := s₂.heap, slotsUsed := s₂.slotsUsed } : State).setVm s₂.vm).frames = .java g₀ :: r := hr
  rcases hq' with ⟨hqc, L, hfe, hL⟩ | ⟨q, rfl, E, ce, L, hx, hce, hcv, hcl, hW₂, hsm, hL⟩
  · obtain ⟨⟨v, rfl⟩, hW₂, e2, q2, q3, q4, q5, q6⟩ := id hfe
    have e3 : s₂ = ({ (U.calling g mk a).setFrames s₂.frames with heap := s₂.heap, slotsUsed := s₂.slotsUsed } : State).setVm s₂.vm := by
      have : s₂ = ({ s₂ with vm := (U.calling g mk a).vm } : State).setVm s₂.vm := rfl
      rw [e2] at this
      exact this
    obtain ⟨c₂, i₂, len₂, hc₂, hd₂, hf₂⟩ := hend
    have hW' : U.WarmedH s₂.vm := hW₂
    have hcc : c₂ = c := by
      have h1 : s₂.code? g.method = U.code? g.method := by
        rw [State.code?_eq, State.code?_eq, hW'.alike.method?]
      exact Option.some.inj (hc₂.symm.trans (h1.trans h.code))
    subst hcc
    have hlen : len₂ = len := by rw [hdg] at hd₂; cases hd₂; rfl
    subst hlen
    have hs₂ : s₂ = (({ U with heap := s₂.heap, slotsUsed := s₂.slotsUsed } : State).setVm s₂.vm).setTop { g with pc := g.pc + len₂, stack := v.toList ++ g.stack } := by
      refine e3.trans ?_
      rw [hf₂, State.calling_eq h.top, State.setFrames_setFrames, State.setTop_of_frames _ hr', hr]
      rfl
    have hsame : U.sameButNew ({ U with heap := s₂.heap, slotsUsed := s₂.slotsUsed } : State) L mc ms := by
      refine ⟨?_, q2, q3, q4, q5, q6⟩
      obtain ⟨t, ht, -⟩ := State.frames_cons hr
      show ({ U with heap := s₂.heap, slotsUsed := s₂.slotsUsed } : State) = { U.setFrames U.frames with heap := s₂.heap, slotsUsed := s₂.slotsUsed }
      rw [State.setFrames_self ht]
    subst hg
    refine Or.inl ⟨v, ⟨(({ U with heap := s₂.heap, slotsUsed := s₂.slotsUsed } : State).setVm s₂.vm), Ls ++ L, c0 + mc, s0 + ms⟩,
      ⟨X.admits, X.cas, X.clock, X.frames, X.room, X.hears, X.method, X.code, (X.here.setHeapUsed s₂.heap s₂.slotsUsed).setVm hW'.alike, X.tail, State.WarmedH.trans X.warmed hW', X.limits, X.bytes, X.same.trans (hsame.setVm s.vm)⟩,
      ⟨g, mk, s₂, L, rfl, rfl, hqc, rfl, hL, rfl, rfl⟩, ?_⟩
    show Steps p.tables e below _ ((({ U with heap := s₂.heap, slotsUsed := s₂.slotsUsed } : State).setVm s₂.vm).setTop { g with pc := g.pc + len₂, stack := v.toList ++ g.stack })
    rw [← hs₂]
    exact hsteps
  · obtain ⟨e2, q2, q3, q4, q5, q6⟩ := id hsm
    have e3 : s₂ = ({ (U.calling g mk a).setFrames s₂.frames with heap := s₂.heap, slotsUsed := s₂.slotsUsed } : State).setVm s₂.vm := by
      have : s₂ = ({ s₂ with vm := (U.calling g mk a).vm } : State).setVm s₂.vm := rfl
      rw [e2] at this
      exact this
    have hf₂ : s₂.frames = .throwing q :: .java g :: U.frames.tail := hend
    have hW' : U.WarmedH s₂.vm := hW₂
    have hs₂ : s₂ = ((({ U with heap := s₂.heap, slotsUsed := s₂.slotsUsed } : State).setVm s₂.vm).setTop g).pushFrame (.throwing q) := by
      refine e3.trans ?_
      rw [hf₂, State.calling_eq h.top, State.setFrames_setFrames, State.pushFrame, State.frames_setTop _ hr', State.setTop_of_frames _ hr', State.setFrames_setFrames, hr]
      rfl
    have hsame : U.sameButNew ({ U with heap := s₂.heap, slotsUsed := s₂.slotsUsed } : State) L mc ms := by
      refine ⟨?_, q2, q3, q4, q5, q6⟩
      obtain ⟨t, ht, -⟩ := State.frames_cons hr
      show ({ U with heap := s₂.heap, slotsUsed := s₂.slotsUsed } : State) = { U.setFrames U.frames with heap := s₂.heap, slotsUsed := s₂.slotsUsed }
      rw [State.setFrames_self ht]
    subst hg
    refine Or.inr ⟨q, ⟨(({ U with heap := s₂.heap, slotsUsed := s₂.slotsUsed } : State).setVm s₂.vm), Ls ++ L, c0 + mc, s0 + ms⟩,
      ⟨X.admits, X.cas, X.clock, X.frames, X.room, X.hears, X.method, X.code, (X.here.setHeapUsed s₂.heap s₂.slotsUsed).setVm hW'.alike, X.tail, State.WarmedH.trans X.warmed hW', X.limits, X.bytes, X.same.trans (hsame.setVm s.vm)⟩,
      ⟨g, mk, s₂, L, E, ce, rfl, rfl, hx, hce, hcv, hcl, rfl, hL, rfl, rfl⟩, ?_⟩
    show Steps p.tables e below _ (((({ U with heap := s₂.heap, slotsUsed := s₂.slotsUsed } : State).setVm s₂.vm).setTop g).pushFrame (.throwing q))
    rw [← hs₂]
    exact hsteps
end Payer
section Calls
variable {p : Program} {l : Launch} {e : Env} {R : Room} {s : State} {m : MethodId} {args : Array Value} {below : List Frame} {meth : Method} {c : Code} {T : State} {locs : List Loc} {cells slots : Nat}
theorem vx_callV (X : Stand p l e R s m args below meth c T locs cells slots) (hexec : p.tables.exec = Jvm.exec) {own C : String} {index : Nat} {y : MethodName} {bytes : ByteArray} {maxL : Nat} {ret : Option FieldType}
    (hown : s.vm.findClass own = some m.cls) (hlink : (Cond.methodLink own index y).before args s = true) (hinst : (Cond.instanceMethod y).before args s = true) (hsel : (Cond.selects C y y).before args s = true)
    (hcode : (Cond.code y bytes maxL ret).before args s = true) (hy : y.cls ≠ "java/lang/invoke/MethodHandle" ∧ y.cls ≠ "java/lang/invoke/VarHandle")
    {W9 : Nat} {Pre : Pt → Array Value → Prop} {Post : Pt → Array Value → Option Value → Pt → Prop} {PostX : Pt → Array Value → Addr → Pt → Prop} (hK : vx_Back l R p e below s args y 3 W9 Pre Post PostX)
    {b : Addr} {cellB : Cell} (hcell : T.heap[b]? = some cellB) (hobj : cellB.vm.isStatics = false) (hcls : s.vm.findClass C = some cellB.cls)
    {g : JFrame} (hg : g.method = m) (hsize : g.locals.size = c.maxLocals) {argsL rest : List Value} (hlen : ∀ sig, parseMethodDescriptor y.desc = some sig → argsL.length = sig.parameters.length)
    (hstack : g.stack = argsL.reverse ++ .ref b :: rest) (hW : 2 * g.monitorRoom + (rest.map fun v => v.category).sum ≤ W9) (hdg : decode c.code g.pc = .ok (.invokevirtual index, 3))
    (hpre : ∀ vm₁, s.WarmedH vm₁ → Pre ⟨T.setVm vm₁, locs, cells, slots⟩ (Value.ref b :: argsL).toArray) :
    (∃ (v : Option Value) (vm₁ : Vm) (B : Pt), s.WarmedH vm₁ ∧ Stand p l e R s m args below meth c B.U B.locs B.cells B.slots ∧ Post ⟨T.setVm vm₁, locs, cells, slots⟩ (Value.ref b :: argsL).toArray v B ∧
      ∀ target, Steps p.tables e below (B.U.setTop { g with pc := g.pc + 3, stack := v.toList ++ rest }) target → Steps p.tables e below (T.setTop g) target) ∨
    (∃ (q : Addr) (vm₁ : Vm) (B : Pt), s.WarmedH vm₁ ∧ Stand p l e R s m args below meth c B.U B.locs B.cells B.slots ∧ PostX ⟨T.setVm vm₁, locs, cells, slots⟩ (Value.ref b :: argsL).toArray q B ∧
      Steps p.tables e below (T.setTop g) ((B.U.setTop { g with stack := rest }).pushFrame (.throwing q))) := by
  obtain ⟨mk, methM, hnamed, hmethM, hstM, habM⟩ := Cond.instanceMethod_spec hinst
  obtain ⟨methM', cM, hmethM', -, -, -, -, -, -, hsigM⟩ := Cond.code_spec hnamed hcode
  cases hmethM.symm.trans hmethM'
  obtain ⟨c2, r2, m2, q1, q2, q3, q4, kP, hkP, hkPi⟩ := Cond.selects_spec hsel
  cases hcls.symm.trans q1
  cases (State.methodFound?_of_named hnamed hy).symm.trans q2
  cases hnamed.symm.trans q3
  have hselP : selectMethod e.platform s.vm cellB.cls mk = .method mk := by rw [Launch.admits_selectMethod X.admits]; exact q4
  obtain ⟨vm₁, X₁, hstep₁⟩ := X.invokevirtual hexec hown hlink hnamed hmethM hstM hkP hkPi hy (a := b) (cell := cellB) hcell
    (fun z h => by rw [h] at hobj; cases hobj) hselP hmethM habM hkP hkPi (g := g) hg (argsL := argsL) (rest := rest) (hlen _ hsigM) hstack hdg
  rcases hK m meth c ⟨T.setVm vm₁, locs, cells, slots⟩ { g with stack := rest } (.invokevirtual index) mk (Value.ref b :: argsL).toArray X₁ hg hsize hdg hW (X₁.named hnamed) (hpre vm₁ X₁.warmed) with ⟨v, B, X', hpost, hsteps⟩ | ⟨q, B, X', hpost, hsteps⟩
  · exact Or.inl ⟨v, vm₁, B, X₁.warmed, X', hpost, fun target h => hstep₁ _ fun acts => by rw [doInvoke_state]; exact hsteps.trans h⟩
  · exact Or.inr ⟨q, vm₁, B, X₁.warmed, X', hpost, hstep₁ _ fun acts => by rw [doInvoke_state]; exact hsteps⟩
theorem vx_callS (X : Stand p l e R s m args below meth c T locs cells slots) (hexec : p.tables.exec = Jvm.exec) {own : String} {index : Nat} {y : MethodName} {bytes : ByteArray} {maxL : Nat} {ret : Option FieldType}
    (hown : s.vm.findClass own = some m.cls) (hlink : (Cond.methodLink own index y).before args s = true) (hstat : (Cond.static y).before args s = true) (hinit : (Cond.initialized y.cls).before args s = true)
    (hcode : (Cond.code y bytes maxL ret).before args s = true) (hy : y.cls ≠ "java/lang/invoke/MethodHandle" ∧ y.cls ≠ "java/lang/invoke/VarHandle")
    {W9 : Nat} {Pre : Pt → Array Value → Prop} {Post : Pt → Array Value → Option Value → Pt → Prop} {PostX : Pt → Array Value → Addr → Pt → Prop} (hK : vx_Back l R p e below s args y 3 W9 Pre Post PostX)
    {g : JFrame} (hg : g.method = m) (hsize : g.locals.size = c.maxLocals) {argsL rest : List Value} (hlen : ∀ sig, parseMethodDescriptor y.desc = some sig → argsL.length = sig.parameters.length)
    (hstack : g.stack = argsL.reverse ++ rest) (hW : 2 * g.monitorRoom + (rest.map fun v => v.category).sum ≤ W9) (hdg : decode c.code g.pc = .ok (.invokestatic index, 3))
    (hpre : ∀ vm₁, s.WarmedH vm₁ → Pre ⟨T.setVm vm₁, locs, cells, slots⟩ argsL.toArray) :
    (∃ (v : Option Value) (vm₁ : Vm) (B : Pt), s.WarmedH vm₁ ∧ Stand p l e R s m args below meth c B.U B.locs B.cells B.slots ∧ Post ⟨T.setVm vm₁, locs, cells, slots⟩ argsL.toArray v B ∧
      ∀ target, Steps p.tables e below (B.U.setTop { g with pc := g.pc + 3, stack := v.toList ++ rest }) target → Steps p.tables e below (T.setTop g) target) ∨
    (∃ (q : Addr) (vm₁ : Vm) (B : Pt), s.WarmedH vm₁ ∧ Stand p l e R s m args below meth c B.U B.locs B.cells B.slots ∧ PostX ⟨T.setVm vm₁, locs, cells, slots⟩ argsL.toArray q B ∧
      Steps p.tables e below (T.setTop g) ((B.U.setTop { g with stack := rest }).pushFrame (.throwing q))) := by
  obtain ⟨mk, hnamed⟩ := Cond.code_named hcode
  obtain ⟨methM, cM, hmethM, -, -, -, -, -, -, hsigM⟩ := Cond.code_spec hnamed hcode
  have hstatic : methM.isStatic = true := Cond.static_spec hnamed hmethM hstat
  obtain ⟨kP, hkP, -⟩ := className_of_methodNamed hnamed
  have hinitP : kP.init = .initialized := Cond.initialized_spec (findClass_of_methodNamed hnamed) hkP hinit
  obtain ⟨vm₁, X₁, hstep₁⟩ := X.invokestatic hexec hown hlink hnamed hmethM hstatic hkP hinitP hy (g := g) hg (argsL := argsL) (rest := rest) (hlen _ hsigM) hstack hdg
  rcases hK m meth c ⟨T.setVm vm₁, locs, cells, slots⟩ { g with stack := rest } (.invokestatic index) mk argsL.toArray X₁ hg hsize hdg hW (X₁.named hnamed) (hpre vm₁ X₁.warmed) with ⟨v, B, X', hpost, hsteps⟩ | ⟨q, B, X', hpost, hsteps⟩
  · exact Or.inl ⟨v, vm₁, B, X₁.warmed, X', hpost, fun target h => hstep₁ _ fun acts => by rw [doInvoke_state]; exact hsteps.trans h⟩
  · exact Or.inr ⟨q, vm₁, B, X₁.warmed, X', hpost, hstep₁ _ fun acts => by rw [doInvoke_state]; exact hsteps⟩
end Calls
theorem vx_cls {s : State} {T : State} {vm₁ : Vm} {E : String} {k : ClassId} (hW : s.WarmedH vm₁) (h : (T.setVm vm₁).vm.findClass E = some k) : s.vm.findClass E = some k := by
  have h1 : vm₁.findClass E = some k := h
  rw [hW.alike.findClass] at h1
  exact h1
/-- the method's frame g, with q thrown over it -/
def vx_W (p : Program) (l : Launch) (e : Env) (R : Room) (s : State) (m : MethodId) (args : Array Value) (below : List Frame) (meth : Method) (c : Code) (H : Heap) (locs : List Loc) (cells slots : Nat) (Q : State → Prop) (g : JFrame) (q : Addr) : Prop :=
  ∀ T : State, T.heap = H → Stand p l e R s m args below meth c T locs cells slots → ∃ t, Steps p.tables e below ((T.setTop g).pushFrame (.throwing q)) t ∧ Q t
def vx_Run (p : Program) (l : Launch) (e : Env) (R : Room) (s : State) (m : MethodId) (args : Array Value) (below : List Frame) (meth : Method) (c : Code) (H : Heap) (locs : List Loc) (cells slots mc ms : Nat) (g : JFrame) (rest : List Value) (Qa : State → Outcome → State → Prop) (XC : String → State → State → Prop) (free : Addr → Prop) : Prop :=
  ∀ T : State, T.heap = H → Stand p l e R s m args below meth c T locs cells slots →
    (∃ (v : Option Value) (st₀ t T' : State) (L : List Loc), st₀.heap = H ∧ Stand p l e R s m args below meth c T' (locs ++ L) (cells + mc) (slots + ms) ∧ (∀ q ∈ L, free q.base) ∧ T'.heap = t.heap ∧ T'.vm = t.vm ∧ Qa st₀ (.returned v) t ∧
      Goes p e below T g T' { g with pc := g.pc + 3, stack := v.toList ++ rest }) ∨
    (∃ (q : Addr) (st₀ t T' : State) (L : List Loc) (E : String) (ce : Cell), st₀.heap = H ∧ Stand p l e R s m args below meth c T' (locs ++ L) (cells + mc) (slots + ms) ∧ (∀ z ∈ L, free z.base) ∧ T'.heap = t.heap ∧ T'.vm = t.vm ∧ XC E st₀ t ∧ t.heap[q]? = some ce ∧ ce.vm = .none ∧ s.vm.findClass E = some ce.cls ∧
      Steps p.tables e below (T.setTop g) ((T'.setTop { g with stack := rest }).pushFrame (.throwing q)))
def vx_X {S : Type} (px : S → Prop) (B : String → S → State → Prop) (A : Nat → Prop) : String → State → State → Prop := fun E st t => ∃ u : S, px u ∧ B E u t ∧ va_F A st t
section Runs
variable {p : Program} {l : Launch} {e : Env} {R : Room} {s : State} {m : MethodId} {args : Array Value} {below : List Frame} {meth : Method} {c : Code} {H : Heap} {locs : List Loc} {cells slots : Nat}
variable {y : MethodName} {bytes cc : ByteArray} {maxL nL mc ms n index : Nat} {ret : Option FieldType} {ws : List Cond} {rm : Room} {Pc : Array Value → State → Prop} {Qc : Array Value → State → Outcome → State → Prop} {XC : String → State → State → Prop} {free : Addr → Prop} {Ts : List Cond} {own C : String} {b : Addr} {As rest : List Value} {g : JFrame}
theorem vx_callBack (cb : CallB R s args own index y bytes maxL ret ws rm mc ms n) (hM : vx_Met l y ws rm Pc Qc XC mc ms free) (hbl : FrameBlind Pc) : vx_Back l R p e below s args y 3 8 (PreOf R mc ms Pc) (PostOf Qc mc ms free) (vx_Post XC mc ms free) := by
  obtain ⟨hrc, hrs, hfr, hlo, hws, hcw, -, hini, -⟩ := cb
  exact vx_back (bytes := bytes) (maxL := maxL) (ret := ret) hM hbl hrc hrs hfr hlo hws hcw (fun a' U hW => word_at hW (Or.inl (by first | rfl | simp [Cond.onTables, Cond.keeps, Cond.steady])) hini)
theorem vx_runV (S : CallFix p m c cc nL s args Ts own) (hM : vx_Met l y ws rm Pc Qc XC mc ms free) (cw : CallW R s args own C index y bytes maxL ret ws rm mc ms n) (hp : PreV s H C b Pc As)
    (hg : g.method = m) (hn : As.length = n) (hsize : g.locals.size = nL) (hstack : g.stack = As.reverse ++ .ref b :: rest) (hW : 2 * g.monitorRoom + (rest.map fun v => v.category).sum ≤ 8) (hdg : decode cc g.pc = .ok (.invokevirtual index, 3)) (hf : cells + mc ≤ R.cells ∧ slots + ms ≤ R.slots) :
    vx_Run p l e R s m args below meth c H locs cells slots mc ms g rest (Qc (Value.ref b :: As).toArray) XC free := by
  have hK : vx_Back l R p e below s args y 3 8 (PreOf R mc ms Pc) (PostOf Qc mc ms free) (vx_Post XC mc ms free) := vx_callBack cw.1 hM hp.1
  obtain ⟨⟨-, -, -, -, -, -, hcode, -, hy, hlen, hl⟩, hin, hse⟩ := cw
  obtain ⟨hx, hb, hml, ho, -⟩ := S
  obtain ⟨-, ⟨cellB, hcB, hoB, hclB⟩, hPc⟩ := hp
  intro T hT X
  rcases vx_callV X hx (C := C) (bytes := bytes) (maxL := maxL) (ret := ret) ho hl hin hse hcode hy hK (by rw [hT]; exact hcB) hoB hclB hg (hsize.trans hml.symm) (argsL := As) (rest := rest) (fun sig h => hn.trans (hlen sig h)) hstack hW (by rw [hb]; exact hdg)
    (fun vm₁ hW₁ => ⟨hf.1, hf.2, hPc (T.setVm vm₁) hT hW₁⟩) with ⟨v, vm₁, ⟨U', l2, c2, s2⟩, hW₁, X', ⟨g', mk, t, L, e1, e2, hq, h1, hL, h2, h3⟩, st⟩ | ⟨q, vm₁, ⟨U', l2, c2, s2⟩, hW₁, X', ⟨g', mk, t, L, E, ce, e1, e2, hq, hce, hcv, hcl, h1, hL, h2, h3⟩, st⟩
  · dsimp only [Pt.U, Pt.locs, Pt.cells, Pt.slots] at X' e1 e2 h1 h2 h3 st
    subst h1; subst h2; subst h3
    exact Or.inl ⟨v, (T.setVm vm₁).calling g' mk (Value.ref b :: As).toArray, t, U', L, hT, X', hL, e1, e2, hq, st⟩
  · dsimp only [Pt.U, Pt.locs, Pt.cells, Pt.slots] at X' e1 e2 h1 h2 h3 st hcl
    subst h1; subst h2; subst h3
    exact Or.inr ⟨q, (T.setVm vm₁).calling g' mk (Value.ref b :: As).toArray, t, U', L, E, ce, hT, X', hL, e1, e2, hq, hce, hcv, vx_cls hW₁ hcl, st⟩
theorem vx_runS (S : CallFix p m c cc nL s args Ts own) (hM : vx_Met l y ws rm Pc Qc XC mc ms free) (cw : CallB R s args own index y bytes maxL ret ws rm mc ms n ∧ (Cond.static y).before args s = true) (hp : PreS s H Pc As)
    (hg : g.method = m) (hn : As.length = n) (hsize : g.locals.size = nL) (hstack : g.stack = As.reverse ++ rest) (hW : 2 * g.monitorRoom + (rest.map fun v => v.category).sum ≤ 8) (hdg : decode cc g.pc = .ok (.invokestatic index, 3)) (hf : cells + mc ≤ R.cells ∧ slots + ms ≤ R.slots) :
    vx_Run p l e R s m args below meth c H locs cells slots mc ms g rest (Qc As.toArray) XC free := by
  have hK : vx_Back l R p e below s args y 3 8 (PreOf R mc ms Pc) (PostOf Qc mc ms free) (vx_Post XC mc ms free) := vx_callBack cw.1 hM hp.1
  obtain ⟨⟨-, -, -, -, -, -, hcode, hini, hy, hlen, hl⟩, hstt⟩ := cw
  obtain ⟨hx, hb, hml, ho, -⟩ := S
  intro T hT X
  rcases vx_callS X hx (bytes := bytes) (maxL := maxL) (ret := ret) ho hl hstt hini hcode hy hK hg (hsize.trans hml.symm) (argsL := As) (rest := rest) (fun sig h => hn.trans (hlen sig h)) hstack hW (by rw [hb]; exact hdg)
    (fun vm₁ hW₁ => ⟨hf.1, hf.2, hp.2 (T.setVm vm₁) hT hW₁⟩) with ⟨v, vm₁, ⟨U', l2, c2, s2⟩, hW₁, X', ⟨g', mk, t, L, e1, e2, hq, h1, hL, h2, h3⟩, st⟩ | ⟨q, vm₁, ⟨U', l2, c2, s2⟩, hW₁, X', ⟨g', mk, t, L, E, ce, e1, e2, hq, hce, hcv, hcl, h1, hL, h2, h3⟩, st⟩
  · dsimp only [Pt.U, Pt.locs, Pt.cells, Pt.slots] at X' e1 e2 h1 h2 h3 st
    subst h1; subst h2; subst h3
    exact Or.inl ⟨v, (T.setVm vm₁).calling g' mk As.toArray, t, U', L, hT, X', hL, e1, e2, hq, st⟩
  · dsimp only [Pt.U, Pt.locs, Pt.cells, Pt.slots] at X' e1 e2 h1 h2 h3 st hcl
    subst h1; subst h2; subst h3
    exact Or.inr ⟨q, (T.setVm vm₁).calling g' mk As.toArray, t, U', L, E, ce, hT, X', hL, e1, e2, hq, hce, hcv, vx_cls hW₁ hcl, st⟩
end Runs
section Rows
variable {p : Program} {l : Launch} {e : Env} {R : Room} {s : State} {m : MethodId} {args : Array Value} {below : List Frame} {meth : Method} {c : Code} {H : Heap} {locs : List Loc} {cells slots : Nat} {Q : State → Prop}
variable {mc ms : Nat} {free : Addr → Prop} {A0 A1 : Nat → Prop} {H0 : Heap} {a : Array Value} {pc : Nat} {ls : Array Slot} {st0 rest : List Value}
theorem vx_keep {st₀ t T' : State} {L : List Loc} (h0 : st₀.heap = H) (e1 : T'.heap = t.heap) (hS : va_S A0 H0 H locs) (hA : ∀ q, q < H.size → A1 q → A0 q) (hf : ∀ q, free q → A0 q) (hL : ∀ q ∈ L, free q.base) (hF : va_F A1 st₀ t) :
    H.size ≤ T'.heap.size ∧ (∀ q : Nat, q < H.size → ¬ A1 q → T'.heap[q]? = H[q]?) ∧ va_S A0 H0 T'.heap (locs ++ L) := by
  obtain ⟨hz, hk⟩ := hF
  rw [h0] at hz hk
  exact ⟨by rw [e1]; exact hz, fun q h1 h2 => by rw [e1]; exact hk q h1 h2,
    ⟨Nat.le_trans hS.1 (by rw [e1]; exact hz), fun q h1 h2 => by rw [e1, hk q (Nat.lt_of_lt_of_le h1 hS.1) (fun z => h2 (hA q (Nat.lt_of_lt_of_le h1 hS.1) z))]; exact hS.2.1 q h1 h2, fun q hq => by
      rcases List.mem_append.mp hq with h | h
      · exact hS.2.2 q h
      · exact hf _ (hL q h)⟩⟩
theorem vx_calli {S SX : Type} {post : Int32 → S → Prop} {px : SX → Prop} {B : S → State → Prop} {BX : String → SX → State → Prop} {AX : Nat → Prop} (hr : vx_Run p l e R s m args below meth c H locs cells slots mc ms (F0 m pc ls st0) rest (va_Qi post B A1 a) (vx_X px BX AX) free) (hS : va_S A0 H0 H locs) (hA : ∀ q, q < H.size → A1 q → A0 q) (hf : ∀ q, free q → A0 q) (hAX : ∀ q, q < H.size → AX q → A0 q)
    (kx : ∀ (E : String) (ce : Cell) (q9 : Addr) (u : SX) (t : State) (H1 : Heap) (locs1 : List Loc), t.heap = H1 → s.vm.Alike t.vm → px u → BX E u t → H.size ≤ H1.size → (∀ q : Nat, q < H.size → ¬ AX q → H1[q]? = H[q]?) → va_S A0 H0 H1 locs1 → H1[q9]? = some ce → ce.vm = .none → s.vm.findClass E = some ce.cls → vx_W p l e R s m args below meth c H1 locs1 (cells + mc) (slots + ms) Q (F0 m pc ls rest) q9)
    (kk : ∀ (r : Int32) (u : S) (t : State) (H1 : Heap) (locs1 : List Loc), t.heap = H1 → s.vm.Alike t.vm → post r u → B u t → H.size ≤ H1.size → (∀ q : Nat, q < H.size → ¬ A1 q → H1[q]? = H[q]?) → va_S A0 H0 H1 locs1 → W p l e R s m args below meth c H1 locs1 (cells + mc) (slots + ms) Q (F0 m (pc + 3) ls (.int r :: rest))) : W p l e R s m args below meth c H locs cells slots Q (F0 m pc ls st0) := by
  intro T hT X
  rcases hr T hT X with ⟨v, st₀, t, T', L, h0, X', hL, e1, e2, ⟨⟨r, u, hv, hp, hb⟩, hF⟩, st⟩ | ⟨q, st₀, t, T', L, E, ce, h0, X', hL, e1, e2, ⟨u, hp, hb, hF⟩, hce, hcv, hcl, st⟩
  · cases hv
    obtain ⟨k1, k2, k3⟩ := vx_keep h0 e1 hS hA hf hL hF
    obtain ⟨t2, a1, b1⟩ := kk r u t T'.heap (locs ++ L) e1.symm (by rw [← e2]; exact X'.warmed.alike) hp hb k1 k2 k3 T' rfl X'
    exact ⟨t2, st t2 a1, b1⟩
  · obtain ⟨k1, k2, k3⟩ := vx_keep h0 e1 hS hAX hf hL hF
    obtain ⟨t2, a1, b1⟩ := kx E ce q u t T'.heap (locs ++ L) e1.symm (by rw [← e2]; exact X'.warmed.alike) hp hb k1 k2 k3 (by rw [e1]; exact hce) hcv hcl T' rfl X'
    exact ⟨t2, st.trans a1, b1⟩
theorem vx_calll {S SX : Type} {post : Int64 → S → Prop} {px : SX → Prop} {B : S → State → Prop} {BX : String → SX → State → Prop} {AX : Nat → Prop} (hr : vx_Run p l e R s m args below meth c H locs cells slots mc ms (F0 m pc ls st0) rest (va_Ql post B A1 a) (vx_X px BX AX) free) (hS : va_S A0 H0 H locs) (hA : ∀ q, q < H.size → A1 q → A0 q) (hf : ∀ q, free q → A0 q) (hAX : ∀ q, q < H.size → AX q → A0 q)
    (kx : ∀ (E : String) (ce : Cell) (q9 : Addr) (u : SX) (t : State) (H1 : Heap) (locs1 : List Loc), t.heap = H1 → s.vm.Alike t.vm → px u → BX E u t → H.size ≤ H1.size → (∀ q : Nat, q < H.size → ¬ AX q → H1[q]? = H[q]?) → va_S A0 H0 H1 locs1 → H1[q9]? = some ce → ce.vm = .none → s.vm.findClass E = some ce.cls → vx_W p l e R s m args below meth c H1 locs1 (cells + mc) (slots + ms) Q (F0 m pc ls rest) q9)
    (kk : ∀ (r : Int64) (u : S) (t : State) (H1 : Heap) (locs1 : List Loc), t.heap = H1 → s.vm.Alike t.vm → post r u → B u t → H.size ≤ H1.size → (∀ q : Nat, q < H.size → ¬ A1 q → H1[q]? = H[q]?) → va_S A0 H0 H1 locs1 → W p l e R s m args below meth c H1 locs1 (cells + mc) (slots + ms) Q (F0 m (pc + 3) ls (.long r :: rest))) : W p l e R s m args below meth c H locs cells slots Q (F0 m pc ls st0) := by
  intro T hT X
  rcases hr T hT X with ⟨v, st₀, t, T', L, h0, X', hL, e1, e2, ⟨⟨r, u, hv, hp, hb⟩, hF⟩, st⟩ | ⟨q, st₀, t, T', L, E, ce, h0, X', hL, e1, e2, ⟨u, hp, hb, hF⟩, hce, hcv, hcl, st⟩
  · cases hv
    obtain ⟨k1, k2, k3⟩ := vx_keep h0 e1 hS hA hf hL hF
    obtain ⟨t2, a1, b1⟩ := kk r u t T'.heap (locs ++ L) e1.symm (by rw [← e2]; exact X'.warmed.alike) hp hb k1 k2 k3 T' rfl X'
    exact ⟨t2, st t2 a1, b1⟩
  · obtain ⟨k1, k2, k3⟩ := vx_keep h0 e1 hS hAX hf hL hF
    obtain ⟨t2, a1, b1⟩ := kx E ce q u t T'.heap (locs ++ L) e1.symm (by rw [← e2]; exact X'.warmed.alike) hp hb k1 k2 k3 (by rw [e1]; exact hce) hcv hcl T' rfl X'
    exact ⟨t2, st.trans a1, b1⟩
theorem vx_callf {S SX : Type} {post : UInt32 → S → Prop} {px : SX → Prop} {B : S → State → Prop} {BX : String → SX → State → Prop} {AX : Nat → Prop} (hr : vx_Run p l e R s m args below meth c H locs cells slots mc ms (F0 m pc ls st0) rest (va_Qf post B A1 a) (vx_X px BX AX) free) (hS : va_S A0 H0 H locs) (hA : ∀ q, q < H.size → A1 q → A0 q) (hf : ∀ q, free q → A0 q) (hAX : ∀ q, q < H.size → AX q → A0 q)
    (kx : ∀ (E : String) (ce : Cell) (q9 : Addr) (u : SX) (t : State) (H1 : Heap) (locs1 : List Loc), t.heap = H1 → s.vm.Alike t.vm → px u → BX E u t → H.size ≤ H1.size → (∀ q : Nat, q < H.size → ¬ AX q → H1[q]? = H[q]?) → va_S A0 H0 H1 locs1 → H1[q9]? = some ce → ce.vm = .none → s.vm.findClass E = some ce.cls → vx_W p l e R s m args below meth c H1 locs1 (cells + mc) (slots + ms) Q (F0 m pc ls rest) q9)
    (kk : ∀ (r : UInt32) (u : S) (t : State) (H1 : Heap) (locs1 : List Loc), t.heap = H1 → s.vm.Alike t.vm → post r u → B u t → H.size ≤ H1.size → (∀ q : Nat, q < H.size → ¬ A1 q → H1[q]? = H[q]?) → va_S A0 H0 H1 locs1 → W p l e R s m args below meth c H1 locs1 (cells + mc) (slots + ms) Q (F0 m (pc + 3) ls (.float r :: rest))) : W p l e R s m args below meth c H locs cells slots Q (F0 m pc ls st0) := by
  intro T hT X
  rcases hr T hT X with ⟨v, st₀, t, T', L, h0, X', hL, e1, e2, ⟨⟨r, u, hv, hp, hb⟩, hF⟩, st⟩ | ⟨q, st₀, t, T', L, E, ce, h0, X', hL, e1, e2, ⟨u, hp, hb, hF⟩, hce, hcv, hcl, st⟩
  · cases hv
    obtain ⟨k1, k2, k3⟩ := vx_keep h0 e1 hS hA hf hL hF
    obtain ⟨t2, a1, b1⟩ := kk r u t T'.heap (locs ++ L) e1.symm (by rw [← e2]; exact X'.warmed.alike) hp hb k1 k2 k3 T' rfl X'
    exact ⟨t2, st t2 a1, b1⟩
  · obtain ⟨k1, k2, k3⟩ := vx_keep h0 e1 hS hAX hf hL hF
    obtain ⟨t2, a1, b1⟩ := kx E ce q u t T'.heap (locs ++ L) e1.symm (by rw [← e2]; exact X'.warmed.alike) hp hb k1 k2 k3 (by rw [e1]; exact hce) hcv hcl T' rfl X'
    exact ⟨t2, st.trans a1, b1⟩
theorem vx_calld {S SX : Type} {post : UInt64 → S → Prop} {px : SX → Prop} {B : S → State → Prop} {BX : String → SX → State → Prop} {AX : Nat → Prop} (hr : vx_Run p l e R s m args below meth c H locs cells slots mc ms (F0 m pc ls st0) rest (va_Qd post B A1 a) (vx_X px BX AX) free) (hS : va_S A0 H0 H locs) (hA : ∀ q, q < H.size → A1 q → A0 q) (hf : ∀ q, free q → A0 q) (hAX : ∀ q, q < H.size → AX q → A0 q)
    (kx : ∀ (E : String) (ce : Cell) (q9 : Addr) (u : SX) (t : State) (H1 : Heap) (locs1 : List Loc), t.heap = H1 → s.vm.Alike t.vm → px u → BX E u t → H.size ≤ H1.size → (∀ q : Nat, q < H.size → ¬ AX q → H1[q]? = H[q]?) → va_S A0 H0 H1 locs1 → H1[q9]? = some ce → ce.vm = .none → s.vm.findClass E = some ce.cls → vx_W p l e R s m args below meth c H1 locs1 (cells + mc) (slots + ms) Q (F0 m pc ls rest) q9)
    (kk : ∀ (r : UInt64) (u : S) (t : State) (H1 : Heap) (locs1 : List Loc), t.heap = H1 → s.vm.Alike t.vm → post r u → B u t → H.size ≤ H1.size → (∀ q : Nat, q < H.size → ¬ A1 q → H1[q]? = H[q]?) → va_S A0 H0 H1 locs1 → W p l e R s m args below meth c H1 locs1 (cells + mc) (slots + ms) Q (F0 m (pc + 3) ls (.double r :: rest))) : W p l e R s m args below meth c H locs cells slots Q (F0 m pc ls st0) := by
  intro T hT X
  rcases hr T hT X with ⟨v, st₀, t, T', L, h0, X', hL, e1, e2, ⟨⟨r, u, hv, hp, hb⟩, hF⟩, st⟩ | ⟨q, st₀, t, T', L, E, ce, h0, X', hL, e1, e2, ⟨u, hp, hb, hF⟩, hce, hcv, hcl, st⟩
  · cases hv
    obtain ⟨k1, k2, k3⟩ := vx_keep h0 e1 hS hA hf hL hF
    obtain ⟨t2, a1, b1⟩ := kk r u t T'.heap (locs ++ L) e1.symm (by rw [← e2]; exact X'.warmed.alike) hp hb k1 k2 k3 T' rfl X'
    exact ⟨t2, st t2 a1, b1⟩
  · obtain ⟨k1, k2, k3⟩ := vx_keep h0 e1 hS hAX hf hL hF
    obtain ⟨t2, a1, b1⟩ := kx E ce q u t T'.heap (locs ++ L) e1.symm (by rw [← e2]; exact X'.warmed.alike) hp hb k1 k2 k3 (by rw [e1]; exact hce) hcv hcl T' rfl X'
    exact ⟨t2, st.trans a1, b1⟩
theorem vx_callv {S SX : Type} {post : S → Prop} {px : SX → Prop} {B : S → State → Prop} {BX : String → SX → State → Prop} {AX : Nat → Prop} (hr : vx_Run p l e R s m args below meth c H locs cells slots mc ms (F0 m pc ls st0) rest (va_Qv post B A1 a) (vx_X px BX AX) free) (hS : va_S A0 H0 H locs) (hA : ∀ q, q < H.size → A1 q → A0 q) (hf : ∀ q, free q → A0 q) (hAX : ∀ q, q < H.size → AX q → A0 q)
    (kx : ∀ (E : String) (ce : Cell) (q9 : Addr) (u : SX) (t : State) (H1 : Heap) (locs1 : List Loc), t.heap = H1 → s.vm.Alike t.vm → px u → BX E u t → H.size ≤ H1.size → (∀ q : Nat, q < H.size → ¬ AX q → H1[q]? = H[q]?) → va_S A0 H0 H1 locs1 → H1[q9]? = some ce → ce.vm = .none → s.vm.findClass E = some ce.cls → vx_W p l e R s m args below meth c H1 locs1 (cells + mc) (slots + ms) Q (F0 m pc ls rest) q9)
    (kk : ∀ (u : S) (t : State) (H1 : Heap) (locs1 : List Loc), t.heap = H1 → s.vm.Alike t.vm → post u → B u t → H.size ≤ H1.size → (∀ q : Nat, q < H.size → ¬ A1 q → H1[q]? = H[q]?) → va_S A0 H0 H1 locs1 → W p l e R s m args below meth c H1 locs1 (cells + mc) (slots + ms) Q (F0 m (pc + 3) ls (rest))) : W p l e R s m args below meth c H locs cells slots Q (F0 m pc ls st0) := by
  intro T hT X
  rcases hr T hT X with ⟨v, st₀, t, T', L, h0, X', hL, e1, e2, ⟨⟨u, hv, hp, hb⟩, hF⟩, st⟩ | ⟨q, st₀, t, T', L, E, ce, h0, X', hL, e1, e2, ⟨u, hp, hb, hF⟩, hce, hcv, hcl, st⟩
  · cases hv
    obtain ⟨k1, k2, k3⟩ := vx_keep h0 e1 hS hA hf hL hF
    obtain ⟨t2, a1, b1⟩ := kk u t T'.heap (locs ++ L) e1.symm (by rw [← e2]; exact X'.warmed.alike) hp hb k1 k2 k3 T' rfl X'
    exact ⟨t2, st t2 a1, b1⟩
  · obtain ⟨k1, k2, k3⟩ := vx_keep h0 e1 hS hAX hf hL hF
    obtain ⟨t2, a1, b1⟩ := kx E ce q u t T'.heap (locs ++ L) e1.symm (by rw [← e2]; exact X'.warmed.alike) hp hb k1 k2 k3 (by rw [e1]; exact hce) hcv hcl T' rfl X'
    exact ⟨t2, st.trans a1, b1⟩
/-- caught by the row x of this method's table; the rows ahead don't take it -/
theorem vx_catch {own name : String} {E : String} {ce : Cell} {q : Addr} (hown : s.vm.findClass own = some m.cls) (pre : List ExceptionTableEntry) (x : ExceptionTableEntry) (suf : List ExceptionTableEntry) (hsplit : c.exceptionTable.toList = pre ++ x :: suf)
    (hpass : ∀ z ∈ pre, covers z pc = false ∨ (z.catchType ≠ 0 ∧ ∃ nm : String, (Cond.classLink own z.catchType nm).before args s = true ∧ va_Nc E nm s)) (hx : covers x pc = true) (h0 : x.catchType ≠ 0)
    (hlink : (Cond.classLink own x.catchType name).before args s = true) (hcast : (Cond.castable E name).before args s = true) (hcell : H[q]? = some ce) (hv : ce.vm = .none) (hcl : s.vm.findClass E = some ce.cls)
    (kk : W p l e R s m args below meth c H locs cells slots Q (F0 m x.handlerPc ls [.ref q])) : vx_W p l e R s m args below meth c H locs cells slots Q (F0 m pc ls rest) q := by
  intro T hT X
  have hpl : e.platform.magicAccessors = ({} : Platform).magicAccessors := by rw [X.admits.platform]
  obtain ⟨c3, c4, hc3, hc4, hasg⟩ := Cond.castable_spec hcast
  cases Option.some.inj (hc3.symm.trans hcl)
  obtain ⟨c5, hc5, hcl5⟩ := Cond.classLink_spec hown hlink e.platform hpl
  cases Option.some.inj (hc4.symm.trans hc5)
  obtain ⟨vm', X', st⟩ := X.thenCaughtThrough q (g := F0 m pc ls rest) rfl (Steps.refl _) (by rw [hT]; exact hcell) (by rw [hv]; rfl) (by obtain ⟨k9, h9, -⟩ := Vm.findClass_spec hcl; exact ⟨k9, h9⟩) pre x suf hsplit
    (fun z hz => by
      rcases hpass z hz with h | ⟨hz0, nm, hl1, hn1⟩
      · exact Or.inl h
      · obtain ⟨c6, hc6, hcl6⟩ := Cond.classLink_spec hown hl1 e.platform hpl
        obtain ⟨a8, b8, h1, h2, h3⟩ := hn1
        cases Option.some.inj (h1.symm.trans hcl)
        cases Option.some.inj (h2.symm.trans hc6)
        exact Or.inr ⟨hz0, _, hcl6, h3⟩) hx (Or.inr ⟨h0, c4, hcl5, hasg⟩)
  obtain ⟨t, a1, b1⟩ := kk (T.setVm vm') hT X'
  exact ⟨t, st.trans a1, b1⟩
end Rows
section Ends
variable {p : Program} {l : Launch} {e : Env} {R : Room} {s : State} {m : MethodId} {args : Array Value} {below : List Frame} {meth : Method} {c : Code} {H : Heap} {locs : List Loc} {cells slots : Nat} {Q : State → Prop}
variable {mc ms : Nat} {free : Addr → Prop} {A0 A1 : Nat → Prop} {H0 : Heap} {a : Array Value} {ls : Array Slot} {st0 rest : List Value}
variable {Qc : Array Value → State → Outcome → State → Prop} {XC : String → State → State → Prop}
/-- what a body that may throw owes at its end -/
def vx_MQ (below : List Frame) (Qc : Array Value → State → Outcome → State → Prop) (XC : String → State → State → Prop) (a : Array Value) (s : State) (mc ms : Nat) (free : Addr → Prop) : State → Prop := fun t =>
  ∃ o, t.status = .running ∧ Ended t below o ∧ vx_Q Qc XC mc ms free a s o t
theorem vx_ret {g : JFrame} {mc ms : Nat} (k : W p l e R s m args below meth c H locs cells slots (MQ below Qc args s mc ms free) g) : W p l e R s m args below meth c H locs cells slots (vx_MQ below Qc XC args s mc ms free) g := by
  intro T hT X
  obtain ⟨t, a1, o, b1, b2, b3, b4⟩ := k T hT X
  exact ⟨t, a1, o, b1, b2, Or.inl ⟨b3, b4⟩⟩
/-- not caught here: it goes on to the caller -/
theorem vx_widen {g : JFrame} {q : Addr} {k n : Nat} (h1 : cells ≤ k) (h2 : slots ≤ n) (kk : vx_W p l e R s m args below meth c H locs k n Q g q) : vx_W p l e R s m args below meth c H locs cells slots Q g q := fun T hT X => kk T hT (stand_widen X h1 h2)
theorem vx_out {pc : Nat} {E : String} {ce : Cell} {q : Addr} {mc ms : Nat} (hout : ∀ x ∈ c.exceptionTable.toList, covers x pc = false) (hlocks : meth.locks = false) (hcell : H[q]? = some ce) (hv : ce.vm = .none) (hcl : s.vm.findClass E = some ce.cls)
    (hx : ∀ t : State, t.heap = H → s.vm.Alike t.vm → XC E s t) (hf : ∀ z ∈ locs, free z.base) (hc : cells ≤ mc) (hs : slots ≤ ms) :
    vx_W p l e R s m args below meth c H locs cells slots (vx_MQ below Qc XC args s mc ms free) (F0 m pc ls rest) q := by
  intro T hT X
  obtain ⟨st1, hrun, hend, hW, hsm⟩ := X.leaveThrown q (g := F0 m pc ls rest) rfl rfl rfl hout hlocks
  have hcell9 : (T.setFrames (.throwing q :: below)).heap[q]? = some ce := by
    show T.heap[q]? = some ce
    rw [hT]; exact hcell
  exact ⟨_, st1, .threw q, hrun, hend, Or.inr ⟨q, rfl, E, ce, locs, hx _ hT hW.alike, hcell9, hv, hcl, hW, hsm.mono hc hs, hf⟩⟩
theorem vx_frame {U : State} {k n : Nat} (h : s.sameButNew ({ U with vm := s.vm } : State) locs k n) : s.heap.size ≤ U.heap.size ∧ ∀ q : Nat, q < s.heap.size → (∀ z ∈ locs, z.base ≠ q) → U.heap[q]? = s.heap[q]? := by
  obtain ⟨-, h2, -, -, -, h6⟩ := h
  refine ⟨h2, fun q hq hz => ?_⟩
  obtain ⟨c9, e1, e2, e3, e4⟩ := h6 q _ (Array.getElem?_eq_getElem hq)
  have hs : c9.slots = (s.heap[q]).slots := Array.ext_getElem? fun i => e4 i fun hm => hz _ hm rfl
  have h9 : c9 = s.heap[q] := by
    rw [hs] at e2
    exact e2
  have e5 : U.heap[q]? = some c9 := e1
  rw [e5, h9, Array.getElem?_eq_getElem hq]
/-- the words of a throw but the four that speak of the heap -/
def vx_no (w : Cond) : Bool := decide (w ≠ .isRef (.static Bundle.tN "UNASSIGNED_STACK" Bundle.steD)) && decide (w ≠ .isRef (.static Bundle.tN "SUPPRESSED_SENTINEL" Bundle.listD)) && decide (w ≠ .laysStatic Bundle.tN "UNASSIGNED_STACK" Bundle.steD) && decide (w ≠ .laysStatic Bundle.tN "SUPPRESSED_SENTINEL" Bundle.listD)
def vx_at0 (own : String) (ic : Nat) (X : String) (names : List String) : List Cond := (Bundle.ownAtoms0 own ic X names).filter vx_no
def vx_atS (own : String) (ic : Nat) (X : String) (names : List String) : List Cond := (Bundle.ownAtoms own ic X names).filter vx_no
/-- a word that the tables alone decide, or a good one -/
def vx_ot (w : Cond) : Bool := w.onTables || goodWord w
theorem vx_ot_at {args a' : Array Value} {s U : State} {w : Cond} (hW : s.WarmedH U.vm) (hvm : s.vm = U.vm) (hg : vx_ot w = true) (h : w.before args s = true) : w.before a' U = true := by
  simp only [vx_ot, Bool.or_eq_true] at hg
  rcases hg with hg | hg
  · exact va_tabs hg hvm h
  · exact word_at hW (good_of_word hg) h
/-- a list's words: the good ones out of the method's own list, the others by premises of their own -/
theorem vx_hat {args : Array Value} {s : State} {L B : List Cond} (h1 : ∀ w ∈ L.filter goodWord, w.before args s = true) (h2 : ∀ w ∈ L.filter (fun w => !goodWord w), w ∈ B) (h3 : ∀ w ∈ B, w.before args s = true) : ∀ w ∈ L, w.before args s = true := by
  intro w hw
  by_cases g : goodWord w = true
  · exact h1 w (List.mem_filter.mpr ⟨hw, g⟩)
  · refine h3 w (h2 w (List.mem_filter.mpr ⟨hw, ?_⟩))
    show (!goodWord w) = true
    cases hgw : goodWord w
    · rfl
    · exact absurd hgw g
theorem vx_c {args : Array Value} {s : State} {w : Cond} {B : List Cond} (h : w.before args s = true) (t : ∀ w ∈ B, w.before args s = true) : ∀ w' ∈ w :: B, w'.before args s = true := fun w' h' => (List.mem_cons.mp h').elim (fun e => by rw [e]; exact h) (t w')
theorem vx_n {args : Array Value} {s : State} : ∀ w ∈ ([] : List Cond), w.before args s = true := fun _ h => nomatch h
theorem vx_own {args : Array Value} {s : State} {L : List Cond} (h1 : ∀ w ∈ L.filter vx_no, w.before args s = true)
    (hU : (Cond.isRef (.static Bundle.tN "UNASSIGNED_STACK" Bundle.steD)).before args s = true) (hN : (Cond.isRef (.static Bundle.tN "SUPPRESSED_SENTINEL" Bundle.listD)).before args s = true)
    (lU : (Cond.laysStatic Bundle.tN "UNASSIGNED_STACK" Bundle.steD).before args s = true) (lN : (Cond.laysStatic Bundle.tN "SUPPRESSED_SENTINEL" Bundle.listD).before args s = true) : ∀ w ∈ L, w.before args s = true := by
  intro w hw
  by_cases e1 : w = .isRef (.static Bundle.tN "UNASSIGNED_STACK" Bundle.steD)
  · rw [e1]; exact hU
  · by_cases e2 : w = .isRef (.static Bundle.tN "SUPPRESSED_SENTINEL" Bundle.listD)
    · rw [e2]; exact hN
    · by_cases e3 : w = .laysStatic Bundle.tN "UNASSIGNED_STACK" Bundle.steD
      · rw [e3]; exact lU
      · by_cases e4 : w = .laysStatic Bundle.tN "SUPPRESSED_SENTINEL" Bundle.listD
        · rw [e4]; exact lN
        · exact h1 w (List.mem_filter.mpr ⟨hw, by unfold vx_no; rw [decide_eq_true e1, decide_eq_true e2, decide_eq_true e3, decide_eq_true e4]; rfl⟩)
/-- where a static field lies, its class's statics cell in H -/
def vx_L (C n d : String) (A : Nat → Prop) (U : State) (H : Heap) : Prop := ∃ (c : ClassId) (k : Class) (i : Nat) (f : Field) (a : Nat) (cell : Cell), U.vm.findClass C = some c ∧ U.fieldFound? C n d = some (c, k, i, f) ∧ f.isStatic = true ∧ k.statics = some a ∧ H[a]? = some cell ∧ cell.vm.isStatics = true ∧ cell.cls = c ∧ f.slot < cell.slots.size ∧ k.staticTypes[f.slot]? = some f.type ∧ ¬ A a
theorem vx_L.moved {C n d : String} {A : Nat → Prop} {u U : State} {H : Heap} (hvm : u.vm.Alike U.vm) (h : vx_L C n d A u H) : vx_L C n d A U H := by
  obtain ⟨c, k, i, f, a, cell, h1, h2, h3, h4, h5, h6, h7, h8, h9, h10⟩ := h
  obtain ⟨k', hi', he⟩ := State.fieldFound?_setVm hvm h2
  exact ⟨c, k', i, f, a, cell, by rw [hvm.findClass]; exact h1, hi', h3, by rw [he]; exact h4, h5, h6, h7, h8, by rw [he]; exact h9, h10⟩
theorem vx_L.kept {C n d : String} {A : Nat → Prop} {U : State} {H H1 : Heap} (h : vx_L C n d A U H) (hq : ∀ a : Nat, a < H.size → ¬ A a → H1[a]? = H[a]?) : vx_L C n d A U H1 := by
  obtain ⟨c, k, i, f, a, cell, h1, h2, h3, h4, h5, h6, h7, h8, h9, h10⟩ := h
  exact ⟨c, k, i, f, a, cell, h1, h2, h3, h4, by rw [hq a (Array.getElem?_eq_some_iff.mp h5).1 h10]; exact h5, h6, h7, h8, h9, h10⟩
theorem vx_L.narrow {C n d : String} {A B : Nat → Prop} {U : State} {H : Heap} (h : vx_L C n d A U H) (hAB : ∀ q, B q → A q) : vx_L C n d B U H := by
  obtain ⟨c, k, i, f, a, cell, h1, h2, h3, h4, h5, h6, h7, h8, h9, h10⟩ := h
  exact ⟨c, k, i, f, a, cell, h1, h2, h3, h4, h5, h6, h7, h8, h9, fun z => h10 (hAB _ z)⟩
theorem vx_L.word {C n d : String} {A : Nat → Prop} {s : State} {args : Array Value} (h : vx_L C n d A s s.heap) : (Cond.laysStatic C n d).before args s = true := by
  obtain ⟨c, k, i, f, a, cell, h1, h2, h3, h4, h5, h6, h7, h8, h9, -⟩ := h
  show (Cond.laysStatic C n d).holds args s none s [] = true
  exact Cond.laysStatic_of h1 h2 h3 h4 h5 h6 h7 h8 h9
/-- .. and what it holds: null or some reference -/
def vx_Zq (C n d : String) (A : Nat → Prop) (U : State) (H : Heap) : Prop := va_Zq C n d A U H ∧ vx_L C n d A U H
theorem vx_Zq.moved {C n d : String} {A : Nat → Prop} {u U : State} {H : Heap} (hvm : u.vm.Alike U.vm) (h : vx_Zq C n d A u H) : vx_Zq C n d A U H := ⟨va_Zq.moved hvm h.1, vx_L.moved hvm h.2⟩
theorem vx_Zq.kept {C n d : String} {A : Nat → Prop} {U : State} {H H1 : Heap} (h : vx_Zq C n d A U H) (hq : ∀ a : Nat, a < H.size → ¬ A a → H1[a]? = H[a]?) : vx_Zq C n d A U H1 := ⟨va_Zq.kept h.1 hq, vx_L.kept h.2 hq⟩
theorem vx_Zq.narrow {C n d : String} {A B : Nat → Prop} {U : State} {H : Heap} (h : vx_Zq C n d A U H) (hAB : ∀ q, B q → A q) : vx_Zq C n d B U H := ⟨va_Zq.narrow h.1 hAB, vx_L.narrow h.2 hAB⟩
theorem vx_Zqof {args : Array Value} {s : State} {C n d : String} {A : Nat → Prop} (hl : (Cond.laysStatic C n d).before args s = true) (hini : (Cond.initialized C).before args s = true) (h : (Cond.isRef (.static C n d)).before args s = true) (hA : ∀ a : Nat, a < s.heap.size → ¬ A a) : vx_Zq C n d A s s.heap := by
  refine ⟨va_Zqof hl hini h hA, ?_⟩
  obtain ⟨c, k, i, f, a, cell, h1, h2, h3, h4, h5, h6, h7, h8, h9⟩ := Cond.laysStatic_spec hl
  exact ⟨c, k, i, f, a, cell, h1, h2, h3, h4, h5, h6, h7, h8, h9, hA a (Array.getElem?_eq_some_iff.mp h5).1⟩
theorem vx_isRef {C n d : String} {v : Value} {A : Nat → Prop} {s : State} {args : Array Value} (h : va_Z C n d v A s s.heap) (hv : v.isRef = true) : (Cond.isRef (.static C n d)).before args s = true := by
  obtain ⟨cf, kf, fi, f, a, cell, h1, h2, h3, h4, h5, h6, h7, -⟩ := h
  have he : (Term.static C n d).eval args s none [] s = some v := by
    simp [Term.eval, State.fieldNamed?, h1, h2, h4, h5, h6, h7]
  simp only [Cond.before, Cond.holds, Cond.value, he]
  cases v <;> simp_all [Value.isRef]
theorem vx_isRefq {C n d : String} {A : Nat → Prop} {s : State} {args : Array Value} (h : va_Zq C n d A s s.heap) : (Cond.isRef (.static C n d)).before args s = true := by
  rcases h with h | ⟨t, h⟩
  · exact vx_isRef h rfl
  · exact vx_isRef h rfl
/-- the same frame, seen from here: as if the method were called anew in this heap -/
theorem vx_rebase {T : State} (X : Stand p l e R s m args below meth c T locs cells slots) {R' : Room} (hf : R'.frames ≤ R.frames) (hl : R'.locals ≤ R.locals) (hc : cells + R'.cells ≤ R.cells) (hs : slots + R'.slots ≤ R.slots) :
    Stand p l e R' ((T.setVm s.vm).setFrames (.invoking m args :: below)) m args below meth c T [] 0 0 := by
  have htop : (T.setVm s.vm).topJava?.isSome := X.here.top
  have hF : ((T.setVm s.vm).setFrames (.invoking m args :: below)).frames = .invoking m args :: below := State.frames_setFrames _ (State.cur_lt_of_top htop)
  obtain ⟨g₀, hg0⟩ := Option.isSome_iff_exists.mp htop
  obtain ⟨r, hr⟩ := State.topJava?_eq_some.mp hg0
  have hl9 : e.platform.stackLimits (T.setVm s.vm).me = e.platform.stackLimits s.me := X.limits
  have hb9 : (T.setVm s.vm).me.stackBytes = s.me.stackBytes := X.bytes
  refine ⟨X.admits, X.cas, X.clock, hF, ?_, X.hears, X.method, X.code, X.here, X.tail, X.warmed, ?_, ?_, ?_⟩
  · have h := X.room
    have hU : ((T.setVm s.vm).setFrames (.invoking m args :: below)).localsInUse = s.localsInUse := by
      rw [State.localsInUse_invoking hF (meth := meth) (c := c) X.method X.code, State.localsInUse_invoking X.frames X.method X.code]
    simp only [State.hasRoom, Bool.and_eq_true, decide_eq_true_eq] at h ⊢
    obtain ⟨⟨⟨⟨h1, h2, h3, h4, h5, h6⟩, h7⟩, h8⟩, h9⟩ := h
    rw [X.frames, List.length_cons] at h2 h3
    have q1 := X.heapSize
    have q2 := X.used
    simp only [hF, hU, List.length_cons, State.stackLimits_setFrames, State.stackBytes_setFrames, hl9, hb9]
    refine ⟨⟨⟨⟨by omega, by omega, by omega, by omega, by omega, h6⟩, ?_⟩, ?_⟩, X.book⟩
    · show T.heap.size + R'.cells ≤ e.platform.maxCells
      omega
    · show T.slotsUsed + R'.slots ≤ e.platform.maxSlots
      omega
  · rw [State.stackLimits_setFrames]; rfl
  · rw [State.stackBytes_setFrames]; rfl
  · refine ⟨?_, Nat.le_refl _, Nat.le_refl _, ?_, ?_, fun a c9 h9 => ⟨c9, h9, rfl, rfl, fun _ _ => rfl⟩⟩
    · obtain ⟨t, ht, -⟩ := State.frames_cons hr
      show T.setVm s.vm = { ((T.setVm s.vm).setFrames (.invoking m args :: below)).setFrames (T.setVm s.vm).frames with heap := T.heap, slotsUsed := T.slotsUsed }
      rw [State.setFrames_setFrames, State.setFrames_self ht]
      rfl
    · show T.slotsUsed = T.slotsUsed + ((T.heap.toList.drop T.heap.size).map (·.slots.size)).sum
      rw [List.drop_eq_nil_of_le (Nat.le_of_eq Array.length_toList)]
      rfl
    · show ((T.heap.toList.drop T.heap.size).map (·.slots.size)).sum ≤ 0
      rw [List.drop_eq_nil_of_le (Nat.le_of_eq Array.length_toList)]
      exact Nat.le_refl _
/-- 'throw new E()': new; dup; invokespecial; athrow -/
theorem vx_throw0 {cc : ByteArray} {pc : Nat} (hexec : p.tables.exec = Jvm.exec) (hb : c.code = cc) (hl : l.stackTraces = false) {own cls : String} {names : List String} {ik ic mc ms : Nat} {A : Nat → Prop}
    (hown : s.vm.findClass own = some m.cls) (hcls : Bundle.fit cls = true) (hnames : ∀ n ∈ names, Bundle.fit n = true)
    (hk : (Cond.classLink own ik cls).before args s = true) (hini : (Cond.initialized cls).before args s = true) (hat : ∀ w ∈ vx_at0 own ic cls names, w.before args s = true)
    (hgood : ∀ w ∈ Cond.classLink own ik cls :: Cond.initialized cls :: vx_at0 own ic cls names, vx_ot w = true)
    (hU : vx_Zq Bundle.tN "UNASSIGNED_STACK" Bundle.steD A s s.heap) (hN : vx_Zq Bundle.tN "SUPPRESSED_SENTINEL" Bundle.listD A s s.heap) (hS : va_S A s.heap H locs) (hsize : ls.size = c.maxLocals)
    (d0 : decode cc pc = .ok (.new ik, 3)) (d3 : decode cc (pc + 3) = .ok (.dup, 1)) (d4 : decode cc (pc + 4) = .ok (.invokespecial ic, 3)) (d7 : decode cc (pc + 7) = .ok (.athrow, 1))
    (hout : ∀ x ∈ c.exceptionTable.toList, covers x (pc + 7) = false)
    (hRframes : names.length + 3 < R.frames) (hRlocals : (rest.map fun v => v.category).sum + (13 * (names.length + 1) + 42) ≤ R.locals) (hRcells : cells + 1 ≤ R.cells) (hRslots : slots + 6 ≤ R.slots) (hlocks : meth.locks = false)
    (hx : ∀ t : State, s.vm.Alike t.vm → H.size ≤ t.heap.size → (∀ q : Nat, q < H.size → t.heap[q]? = H[q]?) → XC cls s t)
    (hf : ∀ z ∈ locs, free z.base) (hc : cells + 1 ≤ mc) (hs : slots + 6 ≤ ms) :
    W p l e R s m args below meth c H locs cells slots (vx_MQ below Qc XC args s mc ms free) (F0 m pc ls rest) := by
  intro T hT X
  have htr : e.platform.stackTraces = false := (show e.platform.stackTraces = l.stackTraces by rw [X.admits.platform]).trans hl
  have Y := vx_rebase X (R' := { frames := R.frames, locals := R.locals, cells := 1, slots := 6 }) (Nat.le_refl _) (Nat.le_refl _) hRcells hRslots
  obtain ⟨s', hA⟩ : ∃ z, z = (T.setVm s.vm).setFrames (.invoking m args :: below) := ⟨_, rfl⟩
  rw [← hA] at Y
  have hvm : s'.vm = s.vm := by rw [hA]; rfl
  have hhp : s'.heap = H := by rw [hA]; exact hT
  have hW0 : s.WarmedH s'.vm := by rw [hvm]; exact State.WarmedH.refl s
  have hat' : ∀ w ∈ vx_at0 own ic cls names, w.before args s' = true := fun w hw => vx_ot_at hW0 hvm.symm (hgood w (List.mem_cons_of_mem _ (List.mem_cons_of_mem _ hw))) (hat w hw)
  have hk' : (Cond.classLink own ik cls).before args s' = true := vx_ot_at hW0 hvm.symm (hgood _ List.mem_cons_self) hk
  have hini' : (Cond.initialized cls).before args s' = true := vx_ot_at hW0 hvm.symm (hgood _ (List.mem_cons_of_mem _ List.mem_cons_self)) hini
  have hU' : vx_Zq Bundle.tN "UNASSIGNED_STACK" Bundle.steD A s' s'.heap := by rw [hhp]; exact vx_Zq.moved hW0.alike (hU.kept hS.2.1)
  have hN' : vx_Zq Bundle.tN "SUPPRESSED_SENTINEL" Bundle.listD A s' s'.heap := by rw [hhp]; exact vx_Zq.moved hW0.alike (hN.kept hS.2.1)
  have h : ∀ w ∈ Bundle.ownAtoms0 own ic cls names, w.before args s' = true := vx_own hat' (vx_isRefq hU'.1) (vx_isRefq hN'.1) hU'.2.word hN'.2.word
  have hown' : s'.vm.findClass own = some m.cls := by rw [hvm]; exact hown
  have hins : (Cond.instantiable cls 6).before args s' = true := h _ (by simp [Bundle.ownAtoms0])
  obtain ⟨vm₁, cX, kX, hfX, hkX, -, -, X₁, st1⟩ := Y.newCold hexec (own := own) (C := cls) (index := ik) (n := 6) hown' hk' hins hini'
    (g := F0 m pc ls rest) rfl (by rw [hb]; exact d0) (Nat.le_refl _) (Nat.le_refl _)
  generalize hT1 : (T.setVm vm₁).pushCell { cls := cX, slots := kX.instanceTypes.map defaultValue, vm := .none } = T1 at X₁ st1
  have hcat : (Value.ref T.heap.size).category = 1 := rfl
  have hcellA : T1.heap[T.heap.size]? = some (freshCell cX kX) := by rw [← hT1]; exact State.heap_pushCell_size _ _
  have d3' : decode c.code (pc + 3) = .ok (.dup, 1) := by rw [hb]; exact d3
  obtain ⟨U, hsteps, hrun, hend, hW, hsame, ce, hce, hO⟩ := X₁.ctorThrow0 hexec htr (own := own) (cls := cls) (names := names) (ic := ic) hown' hcls hnames h (fun x hx => nomatch hx) hfX hkX hcellA (by rw [hhp, hT]; exact Nat.le_refl _)
    (g := { method := m, pc := pc + 4, locals := ls, stack := .ref T.heap.size :: .ref T.heap.size :: rest, locked := none }) rfl hsize rfl rfl (rest := rest) rfl
    (by rw [hb]; exact d4) (by rw [hb]; exact d7) hout hRframes (by simp only [List.map_cons, List.sum_cons, hcat]; omega) hlocks
  obtain ⟨f1, f2⟩ := vx_frame hsame
  rw [hhp] at f1 f2
  have hWs : s.WarmedH U.vm := State.WarmedH.trans hW0 hW
  have hcl : s.vm.findClass cls = some ce.cls := by
    have h9 := hO.cls
    rw [hvm] at h9
    exact h9
  have hall : s.sameButNew ({ U with vm := s.vm } : State) locs mc ms := by
    subst hA
    obtain ⟨e1, e2⟩ := hsame
    rw [State.setFrames_setFrames] at e1
    have h2 : (T.setVm s.vm).sameButNew ({ U with vm := s.vm } : State) [] (0 + 1) (0 + 6) := ⟨e1, e2⟩
    have h3 := X.same.trans h2
    rw [List.append_nil] at h3
    exact h3.mono hc hs
  refine ⟨U, ?_, .threw T.heap.size, hrun, hend, Or.inr ⟨T.heap.size, rfl, cls, ce, locs, hx U hWs.alike f1 (fun q hq => f2 q hq (fun z hz => nomatch hz)), hce, hO.vm, hcl, hWs, hall, hf⟩⟩
  refine st1 _ ?_
  show Steps p.tables e below (T1.setTop { method := m, pc := pc + 3, locals := ls, stack := .ref T.heap.size :: rest, locked := none }) _
  jvm_step X₁.here [X₁.here.top, hexec, d3', Value.category]
  exact hsteps
/-- 'throw new E("text")': new; dup; ldc; invokespecial; athrow -/
theorem vx_throwS {cc : ByteArray} {pc : Nat} (hexec : p.tables.exec = Jvm.exec) (hb : c.code = cc) (hl : l.stackTraces = false) {own cls text : String} {names : List String} {ik is ic mc ms sa : Nat} {A : Nat → Prop}
    (hown : s.vm.findClass own = some m.cls) (hcls : Bundle.fit cls = true) (hnames : ∀ n ∈ names, Bundle.fit n = true)
    (hk : (Cond.classLink own ik cls).before args s = true) (hini : (Cond.initialized cls).before args s = true) (hstr : vk_R own is text sa s) (hat : ∀ w ∈ vx_atS own ic cls names, w.before args s = true)
    (hgood : ∀ w ∈ Cond.classLink own ik cls :: Cond.initialized cls :: vx_atS own ic cls names, vx_ot w = true)
    (hU : vx_Zq Bundle.tN "UNASSIGNED_STACK" Bundle.steD A s s.heap) (hN : vx_Zq Bundle.tN "SUPPRESSED_SENTINEL" Bundle.listD A s s.heap) (hS : va_S A s.heap H locs) (hsize : ls.size = c.maxLocals)
    (d0 : decode cc pc = .ok (.new ik, 3)) (d3 : decode cc (pc + 3) = .ok (.dup, 1)) (d4 : decode cc (pc + 4) = .ok (.ldc is, 2)) (d6 : decode cc (pc + 6) = .ok (.invokespecial ic, 3)) (d9 : decode cc (pc + 9) = .ok (.athrow, 1))
    (hout : ∀ x ∈ c.exceptionTable.toList, covers x (pc + 9) = false)
    (hRframes : names.length + 3 < R.frames) (hRlocals : (rest.map fun v => v.category).sum + (13 * (names.length + 1) + 43) ≤ R.locals) (hRcells : cells + 1 ≤ R.cells) (hRslots : slots + 6 ≤ R.slots) (hlocks : meth.locks = false)
    (hx : ∀ t : State, s.vm.Alike t.vm → H.size ≤ t.heap.size → (∀ q : Nat, q < H.size → t.heap[q]? = H[q]?) → XC cls s t)
    (hf : ∀ z ∈ locs, free z.base) (hc : cells + 1 ≤ mc) (hs : slots + 6 ≤ ms) :
    W p l e R s m args below meth c H locs cells slots (vx_MQ below Qc XC args s mc ms free) (F0 m pc ls rest) := by
  intro T hT X
  have htr : e.platform.stackTraces = false := (show e.platform.stackTraces = l.stackTraces by rw [X.admits.platform]).trans hl
  have Y := vx_rebase X (R' := { frames := R.frames, locals := R.locals, cells := 1, slots := 6 }) (Nat.le_refl _) (Nat.le_refl _) hRcells hRslots
  obtain ⟨s', hA⟩ : ∃ z, z = (T.setVm s.vm).setFrames (.invoking m args :: below) := ⟨_, rfl⟩
  rw [← hA] at Y
  have hvm : s'.vm = s.vm := by rw [hA]; rfl
  have hhp : s'.heap = H := by rw [hA]; exact hT
  have hW0 : s.WarmedH s'.vm := by rw [hvm]; exact State.WarmedH.refl s
  have hat' : ∀ w ∈ vx_atS own ic cls names, w.before args s' = true := fun w hw => vx_ot_at hW0 hvm.symm (hgood w (List.mem_cons_of_mem _ (List.mem_cons_of_mem _ hw))) (hat w hw)
  have hk' : (Cond.classLink own ik cls).before args s' = true := vx_ot_at hW0 hvm.symm (hgood _ List.mem_cons_self) hk
  have hini' : (Cond.initialized cls).before args s' = true := vx_ot_at hW0 hvm.symm (hgood _ (List.mem_cons_of_mem _ List.mem_cons_self)) hini
  have hU' : vx_Zq Bundle.tN "UNASSIGNED_STACK" Bundle.steD A s' s'.heap := by rw [hhp]; exact vx_Zq.moved hW0.alike (hU.kept hS.2.1)
  have hN' : vx_Zq Bundle.tN "SUPPRESSED_SENTINEL" Bundle.listD A s' s'.heap := by rw [hhp]; exact vx_Zq.moved hW0.alike (hN.kept hS.2.1)
  have h : ∀ w ∈ Bundle.ownAtoms own ic cls names, w.before args s' = true := vx_own hat' (vx_isRefq hU'.1) (vx_isRefq hN'.1) hU'.2.word hN'.2.word
  have hown' : s'.vm.findClass own = some m.cls := by rw [hvm]; exact hown
  have hins : (Cond.instantiable cls 6).before args s' = true := h _ (by simp [Bundle.ownAtoms])
  obtain ⟨vm₁, cX, kX, hfX, hkX, -, -, X₁, st1⟩ := Y.newCold hexec (own := own) (C := cls) (index := ik) (n := 6) hown' hk' hins hini'
    (g := F0 m pc ls rest) rfl (by rw [hb]; exact d0) (Nat.le_refl _) (Nat.le_refl _)
  generalize hT1 : (T.setVm vm₁).pushCell { cls := cX, slots := kX.instanceTypes.map defaultValue, vm := .none } = T1 at X₁ st1
  have hcat : (Value.ref T.heap.size).category = 1 := rfl
  have hcellA : T1.heap[T.heap.size]? = some (freshCell cX kX) := by rw [← hT1]; exact State.heap_pushCell_size _ _
  have d3' : decode c.code (pc + 3) = .ok (.dup, 1) := by rw [hb]; exact d3
  have d4' : decode c.code (pc + 4) = .ok (.ldc is, 2) := by rw [hb]; exact d4
  have hstr' : vk_R own is text sa s' := vk_R.warm hW0 hstr
  obtain ⟨U, hsteps, hrun, hend, hW, hsame, ce, hce, hO⟩ := X₁.ctorThrowS hexec htr (own := own) (cls := cls) (names := names) (ic := ic) hown' hcls hnames h (fun x hx => nomatch hx) hfX hkX hcellA (by rw [hhp, hT]; exact Nat.le_refl _) (msg := .ref sa) rfl
    (g := { method := m, pc := pc + 6, locals := ls, stack := .ref sa :: .ref T.heap.size :: .ref T.heap.size :: rest, locked := none }) rfl hsize rfl rfl (rest := rest) rfl
    (by rw [hb]; exact d6) (by rw [hb]; exact d9) hout hRframes (by simp only [List.map_cons, List.sum_cons, hcat]; omega) hlocks
  obtain ⟨f1, f2⟩ := vx_frame hsame
  rw [hhp] at f1 f2
  have hWs : s.WarmedH U.vm := State.WarmedH.trans hW0 hW
  have hcl : s.vm.findClass cls = some ce.cls := by
    have h9 := hO.cls
    rw [hvm] at h9
    exact h9
  have hall : s.sameButNew ({ U with vm := s.vm } : State) locs mc ms := by
    subst hA
    obtain ⟨e1, e2⟩ := hsame
    rw [State.setFrames_setFrames] at e1
    have h2 : (T.setVm s.vm).sameButNew ({ U with vm := s.vm } : State) [] (0 + 1) (0 + 6) := ⟨e1, e2⟩
    have h3 := X.same.trans h2
    rw [List.append_nil] at h3
    exact h3.mono hc hs
  refine ⟨U, ?_, .threw T.heap.size, hrun, hend, Or.inr ⟨T.heap.size, rfl, cls, ce, locs, hx U hWs.alike f1 (fun q hq => f2 q hq (fun z hz => nomatch hz)), hce, hO.vm, hcl, hWs, hall, hf⟩⟩
  refine st1 _ ?_
  show Steps p.tables e below (T1.setTop { method := m, pc := pc + 3, locals := ls, stack := .ref T.heap.size :: rest, locked := none }) _
  jvm_step X₁.here [X₁.here.top, hexec, d3', Value.category]
  exact X₁.ldcString hexec (own := own) (text := text) (index := is) (a := sa) hown' hstr'.1 hstr'.2
    (g := { method := m, pc := pc + 4, locals := ls, stack := .ref T.heap.size :: .ref T.heap.size :: rest, locked := none }) rfl d4' _ hsteps
/-- 'throw new E("text")', the text by a wide index -/
theorem vx_throwSW {cc : ByteArray} {pc : Nat} (hexec : p.tables.exec = Jvm.exec) (hb : c.code = cc) (hl : l.stackTraces = false) {own cls text : String} {names : List String} {ik is ic mc ms sa : Nat} {A : Nat → Prop}
    (hown : s.vm.findClass own = some m.cls) (hcls : Bundle.fit cls = true) (hnames : ∀ n ∈ names, Bundle.fit n = true)
    (hk : (Cond.classLink own ik cls).before args s = true) (hini : (Cond.initialized cls).before args s = true) (hstr : vk_R own is text sa s) (hat : ∀ w ∈ vx_atS own ic cls names, w.before args s = true)
    (hgood : ∀ w ∈ Cond.classLink own ik cls :: Cond.initialized cls :: vx_atS own ic cls names, vx_ot w = true)
    (hU : vx_Zq Bundle.tN "UNASSIGNED_STACK" Bundle.steD A s s.heap) (hN : vx_Zq Bundle.tN "SUPPRESSED_SENTINEL" Bundle.listD A s s.heap) (hS : va_S A s.heap H locs) (hsize : ls.size = c.maxLocals)
    (d0 : decode cc pc = .ok (.new ik, 3)) (d3 : decode cc (pc + 3) = .ok (.dup, 1)) (d4 : decode cc (pc + 4) = .ok (.ldc_w is, 3)) (d7 : decode cc (pc + 7) = .ok (.invokespecial ic, 3)) (d10 : decode cc (pc + 10) = .ok (.athrow, 1))
    (hout : ∀ x ∈ c.exceptionTable.toList, covers x (pc + 10) = false)
    (hRframes : names.length + 3 < R.frames) (hRlocals : (rest.map fun v => v.category).sum + (13 * (names.length + 1) + 43) ≤ R.locals) (hRcells : cells + 1 ≤ R.cells) (hRslots : slots + 6 ≤ R.slots) (hlocks : meth.locks = false)
    (hx : ∀ t : State, s.vm.Alike t.vm → H.size ≤ t.heap.size → (∀ q : Nat, q < H.size → t.heap[q]? = H[q]?) → XC cls s t)
    (hf : ∀ z ∈ locs, free z.base) (hc : cells + 1 ≤ mc) (hs : slots + 6 ≤ ms) :
    W p l e R s m args below meth c H locs cells slots (vx_MQ below Qc XC args s mc ms free) (F0 m pc ls rest) := by
  intro T hT X
  have htr : e.platform.stackTraces = false := (show e.platform.stackTraces = l.stackTraces by rw [X.admits.platform]).trans hl
  have Y := vx_rebase X (R' := { frames := R.frames, locals := R.locals, cells := 1, slots := 6 }) (Nat.le_refl _) (Nat.le_refl _) hRcells hRslots
  obtain ⟨s', hA⟩ : ∃ z, z = (T.setVm s.vm).setFrames (.invoking m args :: below) := ⟨_, rfl⟩
  rw [← hA] at Y
  have hvm : s'.vm = s.vm := by rw [hA]; rfl
  have hhp : s'.heap = H := by rw [hA]; exact hT
  have hW0 : s.WarmedH s'.vm := by rw [hvm]; exact State.WarmedH.refl s
  have hat' : ∀ w ∈ vx_atS own ic cls names, w.before args s' = true := fun w hw => vx_ot_at hW0 hvm.symm (hgood w (List.mem_cons_of_mem _ (List.mem_cons_of_mem _ hw))) (hat w hw)
  have hk' : (Cond.classLink own ik cls).before args s' = true := vx_ot_at hW0 hvm.symm (hgood _ List.mem_cons_self) hk
  have hini' : (Cond.initialized cls).before args s' = true := vx_ot_at hW0 hvm.symm (hgood _ (List.mem_cons_of_mem _ List.mem_cons_self)) hini
  have hU' : vx_Zq Bundle.tN "UNASSIGNED_STACK" Bundle.steD A s' s'.heap := by rw [hhp]; exact vx_Zq.moved hW0.alike (hU.kept hS.2.1)
  have hN' : vx_Zq Bundle.tN "SUPPRESSED_SENTINEL" Bundle.listD A s' s'.heap := by rw [hhp]; exact vx_Zq.moved hW0.alike (hN.kept hS.2.1)
  have h : ∀ w ∈ Bundle.ownAtoms own ic cls names, w.before args s' = true := vx_own hat' (vx_isRefq hU'.1) (vx_isRefq hN'.1) hU'.2.word hN'.2.word
  have hown' : s'.vm.findClass own = some m.cls := by rw [hvm]; exact hown
  have hins : (Cond.instantiable cls 6).before args s' = true := h _ (by simp [Bundle.ownAtoms])
  obtain ⟨vm₁, cX, kX, hfX, hkX, -, -, X₁, st1⟩ := Y.newCold hexec (own := own) (C := cls) (index := ik) (n := 6) hown' hk' hins hini'
    (g := F0 m pc ls rest) rfl (by rw [hb]; exact d0) (Nat.le_refl _) (Nat.le_refl _)
  generalize hT1 : (T.setVm vm₁).pushCell { cls := cX, slots := kX.instanceTypes.map defaultValue, vm := .none } = T1 at X₁ st1
  have hcat : (Value.ref T.heap.size).category = 1 := rfl
  have hcellA : T1.heap[T.heap.size]? = some (freshCell cX kX) := by rw [← hT1]; exact State.heap_pushCell_size _ _
  have d3' : decode c.code (pc + 3) = .ok (.dup, 1) := by rw [hb]; exact d3
  have d4' : decode c.code (pc + 4) = .ok (.ldc_w is, 3) := by rw [hb]; exact d4
  have hstr' : vk_R own is text sa s' := vk_R.warm hW0 hstr
  obtain ⟨U, hsteps, hrun, hend, hW, hsame, ce, hce, hO⟩ := X₁.ctorThrowS hexec htr (own := own) (cls := cls) (names := names) (ic := ic) hown' hcls hnames h (fun x hx => nomatch hx) hfX hkX hcellA (by rw [hhp, hT]; exact Nat.le_refl _) (msg := .ref sa) rfl
    (g := { method := m, pc := pc + 7, locals := ls, stack := .ref sa :: .ref T.heap.size :: .ref T.heap.size :: rest, locked := none }) rfl hsize rfl rfl (rest := rest) rfl
    (by rw [hb]; exact d7) (by rw [hb]; exact d10) hout hRframes (by simp only [List.map_cons, List.sum_cons, hcat]; omega) hlocks
  obtain ⟨f1, f2⟩ := vx_frame hsame
  rw [hhp] at f1 f2
  have hWs : s.WarmedH U.vm := State.WarmedH.trans hW0 hW
  have hcl : s.vm.findClass cls = some ce.cls := by
    have h9 := hO.cls
    rw [hvm] at h9
    exact h9
  have hall : s.sameButNew ({ U with vm := s.vm } : State) locs mc ms := by
    subst hA
    obtain ⟨e1, e2⟩ := hsame
    rw [State.setFrames_setFrames] at e1
    have h2 : (T.setVm s.vm).sameButNew ({ U with vm := s.vm } : State) [] (0 + 1) (0 + 6) := ⟨e1, e2⟩
    have h3 := X.same.trans h2
    rw [List.append_nil] at h3
    exact h3.mono hc hs
  refine ⟨U, ?_, .threw T.heap.size, hrun, hend, Or.inr ⟨T.heap.size, rfl, cls, ce, locs, hx U hWs.alike f1 (fun q hq => f2 q hq (fun z hz => nomatch hz)), hce, hO.vm, hcl, hWs, hall, hf⟩⟩
  refine st1 _ ?_
  show Steps p.tables e below (T1.setTop { method := m, pc := pc + 3, locals := ls, stack := .ref T.heap.size :: rest, locked := none }) _
  jvm_step X₁.here [X₁.here.top, hexec, d3', Value.category]
  exact X₁.ldcStringW hexec (own := own) (text := text) (index := is) (a := sa) hown' hstr'.1 hstr'.2
    (g := { method := m, pc := pc + 4, locals := ls, stack := .ref T.heap.size :: .ref T.heap.size :: rest, locked := none }) rfl d4' _ hsteps
end Ends
section Bodies
variable {l : Launch}
theorem vx_ofW {y : MethodName} {ws ws' : List Cond} {rm : Room} {Pc : Array Value → State → Prop} {Qc : Array Value → State → Outcome → State → Prop} {XC : String → State → State → Prop} {mc ms : Nat} {free : Addr → Prop} {cc : ByteArray} {maxL : Nat} {ret : Option FieldType}
    (hy : plainName y.cls = true) (hw : ws = Cond.code y cc maxL ret :: ws')
    (body : ∀ p e s m args below meth c s₁, BodyLoose p l y (headSpec ws rm) cc maxL ret e s m args below meth c s₁ → c.maxLocals = maxL → (∀ x ∈ c.exceptionTable.toList, False) → Pc args s →
      W p l e (headSpec ws rm).room s m args below meth c s.heap [] 0 0 (vx_MQ below Qc XC args s mc ms free) (entryFrame m args maxL)) : vx_Met l y ws rm Pc Qc XC mc ms free := by
  refine MetFree.of_bodyS (code := cc) (maxLocals := maxL) (ret := ret) hy ?_ ?_
  · intro args s m h hn
    obtain ⟨meth, c, h1, h2, h3, h4, h5, h6, -, -⟩ := Cond.code_spec hn (atoms_spec (ws := ws) h _ (by rw [hw]; exact List.mem_cons_self))
    exact ⟨meth, c, h1, h2, h3, h4, h5, h6⟩
  · intro p e s m args below meth c s₁ B hml hP _
    have hh0 : s₁.heap = s.heap := by rw [B.state]; rfl
    have ht : ∀ x ∈ c.exceptionTable.toList, False := by
      obtain ⟨meth9, c9, h1, h2, -, -, -, -, h7, -⟩ := Cond.code_spec B.named (atoms_spec (ws := ws) B.pre _ (by rw [hw]; exact List.mem_cons_self))
      cases Option.some.inj (h1.symm.trans B.method)
      cases Option.some.inj (h2.symm.trans (Stand.of_body B).code)
      intro x hx
      rw [Array.isEmpty_iff.mp h7] at hx
      cases hx
    obtain ⟨t, a1, o, b1, b2, b3⟩ := body p e s m args below meth c s₁ B hml ht hP s₁ hh0 (Stand.of_body B)
    exact ⟨t, o, a1, b1, b2, b3⟩
/-- the table of a body with handlers -/
theorem vx_table {p : Program} {x y : MethodName} {S : Spec} {cc bytes : ByteArray} {maxL maxL' : Nat} {ret ret' : Option FieldType} {e : Env} {s s₁ : State} {m : MethodId} {args : Array Value} {below : List Frame} {meth : Method} {c : Code} {hh : List (Nat × Nat × Nat × Nat)}
    (B : BodyLoose p l y S cc maxL ret e s m args below meth c s₁) (h : (Cond.codeWith y bytes maxL' ret' hh).before args s = true) : c.exceptionTable.toList = tableOf hh := by
  obtain ⟨m9, meth9, c9, hn9, h1, h2, -, -, h6, -⟩ := Cond.codeWith_spec h
  cases Option.some.inj (hn9.symm.trans B.named)
  cases Option.some.inj (h1.symm.trans B.method)
  cases Option.some.inj (h2.symm.trans (Stand.of_body B).code)
  rw [← h6, table_eq]
end Bodies
end VXA
/-! ===== END ===== -/
/-! ===== BEGIN a static call of a method with an exception table ===== -/
section VXS
variable {p : Program} {l : Launch} {e : Env} {R : Room} {s : State} {m : MethodId} {args : Array Value} {below : List Frame} {meth : Method} {c : Code} {T : State} {H : Heap} {locs : List Loc} {cells slots : Nat}
abbrev vx_CSW (R : Room) (s : State) (args : Array Value) (own : String) (index : Nat) (y : MethodName) (bytes : ByteArray) (maxL : Nat) (ret : Option FieldType) (hh : List (Nat × Nat × Nat × Nat)) (ws : List Cond) (rm : Room) (mc ms n : Nat) : Prop :=
  (rm.cells = mc ∧ rm.slots = ms ∧ rm.frames + 1 ≤ R.frames ∧ 8 + (maxL + 11) + rm.locals ≤ R.locals ∧ (∀ w ∈ ws, ∀ (a' : Array Value) (U : State), s.WarmedH U.vm → w.before a' U = true) ∧ Cond.codeWith y bytes maxL ret hh ∈ ws) ∧
  (Cond.codeWith y bytes maxL ret hh).before args s = true ∧ (Cond.initialized y.cls).before args s = true ∧ (y.cls ≠ "java/lang/invoke/MethodHandle" ∧ y.cls ≠ "java/lang/invoke/VarHandle") ∧
  (∀ sig, parseMethodDescriptor y.desc = some sig → n = sig.parameters.length) ∧ (Cond.methodLink own index y).before args s = true ∧ (Cond.static y).before args s = true
theorem vx_cwSW {own : String} {index maxL mc ms : Nat} {y : MethodName} {bytes : ByteArray} {ret : Option FieldType} {hh : List (Nat × Nat × Nat × Nat)} {Ts ws ws' : List Cond} {rm : Room} (n : Nat) (ht : ∀ w ∈ Ts, w.before args s = true) (hT : GoodIn Ts (va_wsS own index y ws)) (hw : ws = Cond.codeWith y bytes maxL ret hh :: ws') (hrc : rm.cells = mc) (hrs : rm.slots = ms)
    (hd : y.cls ≠ "java/lang/invoke/MethodHandle" ∧ y.cls ≠ "java/lang/invoke/VarHandle" ∧ (parseMethodDescriptor y.desc).map (fun d => d.parameters.length) = some n) (hR : rm.frames + 1 ≤ R.frames ∧ 8 + (maxL + 11) + rm.locals ≤ R.locals) :
    vx_CSW R s args own index y bytes maxL ret hh ws rm mc ms n := by
  have ok : ∀ w ∈ va_wsS own index y ws, w.before args s = true := fun w h => ht w (hT w h).1
  have hG : GoodIn Ts ws := fun w h => hT w (by unfold va_wsS; exact List.mem_append_right _ h)
  have hc : Cond.codeWith y bytes maxL ret hh ∈ ws := by rw [hw]; exact List.mem_cons_self
  refine ⟨⟨hrc, hrs, hR.1, hR.2, pay_in ht hG, hc⟩, ht _ (hG _ hc).1, ok _ (by simp [va_wsS]), ⟨hd.1, hd.2.1⟩, fun sig h => ?_, ok _ (by simp [va_wsS]), ok _ (by simp [va_wsS])⟩
  have h2 := hd.2.2
  rw [h] at h2
  exact (Option.some.inj h2).symm
theorem vx_callSW (X : Stand p l e R s m args below meth c T locs cells slots) (hexec : p.tables.exec = Jvm.exec) {own : String} {index : Nat} {y : MethodName} {bytes : ByteArray} {maxL : Nat} {ret : Option FieldType} {hh : List (Nat × Nat × Nat × Nat)}
    (hown : s.vm.findClass own = some m.cls) (hlink : (Cond.methodLink own index y).before args s = true) (hstat : (Cond.static y).before args s = true) (hinit : (Cond.initialized y.cls).before args s = true)
    (hcode : (Cond.codeWith y bytes maxL ret hh).before args s = true) (hy : y.cls ≠ "java/lang/invoke/MethodHandle" ∧ y.cls ≠ "java/lang/invoke/VarHandle")
    {W9 : Nat} {Pre : Pt → Array Value → Prop} {Post : Pt → Array Value → Option Value → Pt → Prop} (hK : Back l R p e below s args y 3 W9 Pre Post)
    {g : JFrame} (hg : g.method = m) (hsize : g.locals.size = c.maxLocals) {argsL rest : List Value} (hlen : ∀ sig, parseMethodDescriptor y.desc = some sig → argsL.length = sig.parameters.length)
    (hstack : g.stack = argsL.reverse ++ rest) (hW : 2 * g.monitorRoom + (rest.map fun v => v.category).sum ≤ W9) (hdg : decode c.code g.pc = .ok (.invokestatic index, 3))
    (hpre : ∀ vm₁, s.WarmedH vm₁ → Pre ⟨T.setVm vm₁, locs, cells, slots⟩ argsL.toArray) :
    ∃ (v : Option Value) (vm₁ : Vm) (B : Pt), s.WarmedH vm₁ ∧ Stand p l e R s m args below meth c B.U B.locs B.cells B.slots ∧ Post ⟨T.setVm vm₁, locs, cells, slots⟩ argsL.toArray v B ∧
      ∀ target, Steps p.tables e below (B.U.setTop { g with pc := g.pc + 3, stack := v.toList ++ rest }) target → Steps p.tables e below (T.setTop g) target := by
  obtain ⟨mk, methM, cM, hnamed, hmethM, -, -, -, -, -, -, hsigM⟩ := Cond.codeWith_spec hcode
  have hstatic : methM.isStatic = true := Cond.static_spec hnamed hmethM hstat
  obtain ⟨kP, hkP, -⟩ := className_of_methodNamed hnamed
  have hinitP : kP.init = .initialized := Cond.initialized_spec (findClass_of_methodNamed hnamed) hkP hinit
  obtain ⟨vm₁, X₁, hstep₁⟩ := X.invokestatic hexec hown hlink hnamed hmethM hstatic hkP hinitP hy (g := g) hg (argsL := argsL) (rest := rest) (hlen _ hsigM) hstack hdg
  obtain ⟨v, B, X', hpost, hsteps⟩ := hK m meth c ⟨T.setVm vm₁, locs, cells, slots⟩ { g with stack := rest } (.invokestatic index) mk argsL.toArray X₁ hg hsize hdg hW (X₁.named hnamed) (hpre vm₁ X₁.warmed)
  exact ⟨v, vm₁, B, X₁.warmed, X', hpost, fun target h => hstep₁ _ fun acts => by rw [doInvoke_state]; exact hsteps.trans h⟩
theorem vx_runSW {y : MethodName} {bytes cc : ByteArray} {maxL nL mc ms n index : Nat} {ret : Option FieldType} {hh : List (Nat × Nat × Nat × Nat)} {ws : List Cond} {rm : Room} {Pc : Array Value → State → Prop} {Qc : Array Value → State → Outcome → State → Prop} {free : Addr → Prop} {Ts : List Cond} {own : String} {As rest : List Value} {g : JFrame}
    (S : CallFix p m c cc nL s args Ts own) (hM : Met l y ws rm Pc Qc mc ms free) (cw : vx_CSW R s args own index y bytes maxL ret hh ws rm mc ms n) (hp : PreS s H Pc As)
    (hg : g.method = m) (hn : As.length = n) (hsize : g.locals.size = nL) (hstack : g.stack = As.reverse ++ rest) (hW : 2 * g.monitorRoom + (rest.map fun v => v.category).sum ≤ 8) (hdg : decode cc g.pc = .ok (.invokestatic index, 3)) (hf : cells + mc ≤ R.cells ∧ slots + ms ≤ R.slots) :
    va_Run p l e R s m args below meth c H locs cells slots mc ms g rest (Qc As.toArray) (free) := by
  obtain ⟨⟨hrc, hrs, hfr, hlo, hws, hcw⟩, hcode, hini, hy, hlen, hl, hstt⟩ := cw
  have hK : Back l R p e below s args y 3 8 (PreOf R mc ms Pc) (PostOf Qc mc ms free) := va_backW (hh := hh) (bytes := bytes) (maxL := maxL) (ret := ret) hM hp.1 hrc hrs hfr hlo hws hcw (fun a' U hW => word_at hW (Or.inl (by first | rfl | simp [Cond.onTables, Cond.keeps, Cond.steady])) hini)
  obtain ⟨hx, hb, hml, ho, -⟩ := S
  intro T hT X
  obtain ⟨v, vm₁, ⟨U', l2, c2, s2⟩, hW₁, X', ⟨g', mk, t, L, e1, e2, hq, h1, hL, h2, h3⟩, st⟩ := vx_callSW X hx (hh := hh) (bytes := bytes) (maxL := maxL) (ret := ret) ho hl hstt hini hcode hy hK hg (hsize.trans hml.symm) (argsL := As) (rest := rest) (fun sig h => hn.trans (hlen sig h)) hstack hW (by rw [hb]; exact hdg)
    (fun vm₁ hW₁ => ⟨hf.1, hf.2, hp.2 (T.setVm vm₁) hT hW₁⟩)
  dsimp only [Pt.U, Pt.locs, Pt.cells, Pt.slots] at X' e1 e2 h1 h2 h3 st
  subst h1; subst h2; subst h3
  exact ⟨v, (T.setVm vm₁).calling g' mk As.toArray, t, U', L, hT, X', hL, e1, e2, hq, st⟩
/-- not caught here, past rows that name other classes: it goes on to the caller -/
theorem vx_outP {p : Program} {l : Launch} {e : Env} {R : Room} {s : State} {m : MethodId} {args : Array Value} {below : List Frame} {meth : Method} {c : Code} {H : Heap} {locs : List Loc} {cells slots : Nat} {free : Addr → Prop} {ls : Array Slot} {rest : List Value} {Qc : Array Value → State → Outcome → State → Prop} {XC : String → State → State → Prop}
    {pc : Nat} {own E : String} {ce : Cell} {q : Addr} {mc ms : Nat} (hown : s.vm.findClass own = some m.cls) (hlocks : meth.locks = false)
    (hpass : ∀ z ∈ c.exceptionTable.toList, covers z pc = false ∨ (z.catchType ≠ 0 ∧ ∃ nm : String, (Cond.classLink own z.catchType nm).before args s = true ∧ va_Nc E nm s)) (hcell : H[q]? = some ce) (hv : ce.vm = .none) (hcl : s.vm.findClass E = some ce.cls)
    (hx : ∀ t : State, t.heap = H → s.vm.Alike t.vm → XC E s t) (hf : ∀ z ∈ locs, free z.base) (hc : cells ≤ mc) (hs : slots ≤ ms) :
    vx_W p l e R s m args below meth c H locs cells slots (vx_MQ below Qc XC args s mc ms free) (F0 m pc ls rest) q := by
  intro T hT X
  have hpl : e.platform.magicAccessors = ({} : Platform).magicAccessors := by rw [X.admits.platform]
  obtain ⟨vm', hW', X', st⟩ := X.outThrough hlocks q (g := F0 m pc ls rest) rfl rfl rfl (cell := ce) (by rw [hT]; exact hcell) (by rw [hv]; rfl)
    (by obtain ⟨k9, h9, -⟩ := Vm.findClass_spec hcl; exact ⟨k9, h9⟩) (fun z hz => by
      rcases hpass z hz with h | ⟨hz0, nm, hl1, hn1⟩
      · exact Or.inl h
      · obtain ⟨c6, hc6, hcl6⟩ := Cond.classLink_spec hown hl1 e.platform hpl
        obtain ⟨a8, b8, h1, h2, h3⟩ := hn1
        cases Option.some.inj (h1.symm.trans hcl)
        cases Option.some.inj (h2.symm.trans hc6)
        exact Or.inr ⟨hz0, _, hcl6, h3⟩)
  obtain ⟨g₀, hfr⟩ := X'.frames_eq
  have hcell9 : ((T.setVm vm').setFrames (.throwing q :: below)).heap[q]? = some ce := by
    show T.heap[q]? = some ce
    rw [hT]; exact hcell
  have hend : Ended ((T.setVm vm').setFrames (.throwing q :: below)) below (.threw q) := State.frames_setFrames _ (State.cur_lt_of_frames hfr)
  refine ⟨(T.setVm vm').setFrames (.throwing q :: below), ?_, .threw q, X'.here.running, hend, Or.inr ⟨q, rfl, E, ce, locs, hx _ hT (X'.ends _).1.alike, hcell9, hv, hcl, (X'.ends _).1, (X'.ends _).2.mono hc hs, hf⟩⟩
  rw [X.pushThrowing_eq]
  exact st
/-- a thing of a world lies in the heap -/
theorem vx_lt {D : va_G} {cl : List vw_C} {ws : va_W} {H1 : Heap} (h : va_P D cl ws H1) {k : Nat} {q : Nat × va_E} (hk : ws[k]? = some q) : q.1 < H1.size := (h k q hk).lt
end VXS
/-! ===== END ===== -/
/-! ===== BEGIN methods with a table of their own: called by a name, returning or throwing ===== -/
section VXH
/-! vx_backW, vx_callVX, vx_callSX, vx_callVW, vx_runVW, vx_runVX, vx_runSX, vx_ofWH follow the same proofs as their sisters above (Free/Laws.lean, Shelf42/LK1.lean); vx_outP calls Shelf42/NT130.lean (outThrough). -/
section
variable {l : Launch} {R : Room} {p : Program} {e : Env} {below : List Frame} {s : State} {sargs : Array Value} {y : MethodName} {len W9 : Nat}
theorem vx_backW {ws : List Cond} {rm : Room} {Pc : Array Value → State → Prop} {Qc : Array Value → State → Outcome → State → Prop} {XC : String → State → State → Prop} {mc ms : Nat} {free : Addr → Prop} {bytes : ByteArray} {maxL : Nat} {ret : Option FieldType} {hh : List (Nat × Nat × Nat × Nat)}
    (hM : vx_Met l y ws rm Pc Qc XC mc ms free) (hblind : FrameBlind Pc) (hrc : rm.cells = mc) (hrs : rm.slots = ms)
    (hframes : rm.frames + 1 ≤ R.frames) (hlocals : W9 + (maxL + 11) + rm.locals ≤ R.locals)
    (hws : ∀ w ∈ ws, ∀ a' U, s.WarmedH U.vm → w.before a' U = true) (hcode : Cond.codeWith y bytes maxL ret hh ∈ ws) (hinit : ∀ a' U, s.WarmedH U.vm → (Cond.initialized y.cls).before a' U = true) :
    vx_Back l R p e below s sargs y len W9 (PreOf R mc ms Pc) (PostOf Qc mc ms free) (vx_Post XC mc ms free) := by
  intro m meth c A g ig mk a X hg hsize hdg hW hn hp
  have h1 : (headSpec ws rm).pre.before a A.U = true := atoms_intro fun w hw => hws w hw _ _ X.warmed
  have h2 : (Cond.codeWith y bytes maxL ret hh).before a A.U = true := hws _ hcode _ _ X.warmed
  have h3 : (Cond.initialized y.cls).before a A.U = true := hinit _ _ X.warmed
  have h4 : A.cells + (headSpec ws rm).room.cells ≤ R.cells := by rw [show (headSpec ws rm).room.cells = mc from hrc]; exact hp.1
  have h5 : A.slots + (headSpec ws rm).room.slots ≤ R.slots := by rw [show (headSpec ws rm).room.slots = ms from hrs]; exact hp.2.1
  have hPc : Pc a (A.U.calling g mk a) := hblind _ _ _ _ hp.2.2
  obtain ⟨U, Ls, c0, s0⟩ := A
  dsimp only [Pt.U, Pt.locs, Pt.cells, Pt.slots] at h1 h2 h3 h4 h5 X hn hPc ⊢
  obtain ⟨m9, methY, cY, hn9, hmY, hcY, -, hlY, -⟩ := Cond.codeWith_spec h2
  cases Option.some.inj (hn9.symm.trans hn)
  obtain ⟨kY, hkY, -⟩ := className_of_methodNamed hn
  have hinitY : kY.init = .initialized := Cond.initialized_spec (findClass_of_methodNamed hn) hkY h3
  have h : At U g.method c below := by rw [hg]; exact X.here
  have hlocals9 : W9 + (maxL + 11) + (headSpec ws rm).room.locals ≤ R.locals := hlocals
  have happ : (headSpec ws rm).appliesLoose y e.platform (U.calling g mk a) = true :=
    Spec.appliesLoose_calling (g := g) h hdg hn hkY hinitY
      (X.room_calling (g := g) (R' := (headSpec ws rm).room) hsize hmY hcY hframes (by rw [hlY]; omega) h4 h5) h1
  obtain ⟨mid, hmid⟩ := h.above
  have hfr : (U.setTop g).frames = (.java g :: mid) ++ below := by rw [State.frames_setTop' g h.top, hmid]; rfl
  obtain ⟨o, s₂, hsteps, -, hend, hq⟩ := Steps.callFree hM p X.admits X.cas X.clock (acts := []) hfr happ hPc trivial
  have hq' : vx_Q Qc XC mc ms free a (U.calling g mk a) o s₂ := hq
  rw [State.frames_setTop' g h.top] at hend
  obtain ⟨g₀, hg0⟩ := Option.isSome_iff_exists.mp h.top
  obtain ⟨r, hr⟩ := State.topJava?_eq_some.mp hg0
  have hr' : (({ U with heap := s₂.heap, slotsUsed := s₂.slotsUsed } : State).setVm s₂.vm).frames = .java g₀ :: r := hr
  rcases hq' with ⟨hqc, L, hfe, hL⟩ | ⟨q, rfl, E, ce, L, hx, hce, hcv, hcl, hW₂, hsm, hL⟩
  · obtain ⟨⟨v, rfl⟩, hW₂, e2, q2, q3, q4, q5, q6⟩ := id hfe
    have e3 : s₂ = ({ (U.calling g mk a).setFrames s₂.frames with heap := s₂.heap, slotsUsed := s₂.slotsUsed } : State).setVm s₂.vm := by
      have : s₂ = ({ s₂ with vm := (U.calling g mk a).vm } : State).setVm s₂.vm := rfl
      rw [e2] at this
      exact this
    obtain ⟨c₂, i₂, len₂, hc₂, hd₂, hf₂⟩ := hend
    have hW' : U.WarmedH s₂.vm := hW₂
    have hcc : c₂ = c := by
      have h1 : s₂.code? g.method = U.code? g.method := by
        rw [State.code?_eq, State.code?_eq, hW'.alike.method?]
      exact Option.some.inj (hc₂.symm.trans (h1.trans h.code))
    subst hcc
    have hlen : len₂ = len := by rw [hdg] at hd₂; cases hd₂; rfl
    subst hlen
    have hs₂ : s₂ = (({ U with heap := s₂.heap, slotsUsed := s₂.slotsUsed } : State).setVm s₂.vm).setTop { g with pc := g.pc + len₂, stack := v.toList ++ g.stack } := by
      refine e3.trans ?_
      rw [hf₂, State.calling_eq h.top, State.setFrames_setFrames, State.setTop_of_frames _ hr', hr]
      rfl
    have hsame : U.sameButNew ({ U with heap := s₂.heap, slotsUsed := s₂.slotsUsed } : State) L mc ms := by
      refine ⟨?_, q2, q3, q4, q5, q6⟩
      obtain ⟨t, ht, -⟩ := State.frames_cons hr
      show ({ U with heap := s₂.heap, slotsUsed := s₂.slotsUsed } : State) = { U.setFrames U.frames with heap := s₂.heap, slotsUsed := s₂.slotsUsed }
      rw [State.setFrames_self ht]
    subst hg
    refine Or.inl ⟨v, ⟨(({ U with heap := s₂.heap, slotsUsed := s₂.slotsUsed } : State).setVm s₂.vm), Ls ++ L, c0 + mc, s0 + ms⟩,
      ⟨X.admits, X.cas, X.clock, X.frames, X.room, X.hears, X.method, X.code, (X.here.setHeapUsed s₂.heap s₂.slotsUsed).setVm hW'.alike, X.tail, State.WarmedH.trans X.warmed hW', X.limits, X.bytes, X.same.trans (hsame.setVm s.vm)⟩,
      ⟨g, mk, s₂, L, rfl, rfl, hqc, rfl, hL, rfl, rfl⟩, ?_⟩
    show Steps p.tables e below _ ((({ U with heap := s₂.heap, slotsUsed := s₂.slotsUsed } : State).setVm s₂.vm).setTop { g with pc := g.pc + len₂, stack := v.toList ++ g.stack })
    rw [← hs₂]
    exact hsteps
  · obtain ⟨e2, q2, q3, q4, q5, q6⟩ := id hsm
    have e3 : s₂ = ({ (U.calling g mk a).setFrames s₂.frames with heap := s₂.heap, slotsUsed := s₂.slotsUsed } : State).setVm s₂.vm := by
      have : s₂ = ({ s₂ with vm := (U.calling g mk a).vm } : State).setVm s₂.vm := rfl
      rw [e2] at this
      exact this
    have hf₂ : s₂.frames = .throwing q :: .java g :: U.frames.tail := hend
    have hW' : U.WarmedH s₂.vm := hW₂
    have hs₂ : s₂ = ((({ U with heap := s₂.heap, slotsUsed := s₂.slotsUsed } : State).setVm s₂.vm).setTop g).pushFrame (.throwing q) := by
      refine e3.trans ?_
      rw [hf₂, State.calling_eq h.top, State.setFrames_setFrames, State.pushFrame, State.frames_setTop _ hr', State.setTop_of_frames _ hr', State.setFrames_setFrames, hr]
      rfl
    have hsame : U.sameButNew ({ U with heap := s₂.heap, slotsUsed := s₂.slotsUsed } : State) L mc ms := by
      refine ⟨?_, q2, q3, q4, q5, q6⟩
      obtain ⟨t, ht, -⟩ := State.frames_cons hr
      show ({ U with heap := s₂.heap, slotsUsed := s₂.slotsUsed } : State) = { U.setFrames U.frames with heap := s₂.heap, slotsUsed := s₂.slotsUsed }
      rw [State.setFrames_self ht]
    subst hg
    refine Or.inr ⟨q, ⟨(({ U with heap := s₂.heap, slotsUsed := s₂.slotsUsed } : State).setVm s₂.vm), Ls ++ L, c0 + mc, s0 + ms⟩,
      ⟨X.admits, X.cas, X.clock, X.frames, X.room, X.hears, X.method, X.code, (X.here.setHeapUsed s₂.heap s₂.slotsUsed).setVm hW'.alike, X.tail, State.WarmedH.trans X.warmed hW', X.limits, X.bytes, X.same.trans (hsame.setVm s.vm)⟩,
      ⟨g, mk, s₂, L, E, ce, rfl, rfl, hx, hce, hcv, hcl, rfl, hL, rfl, rfl⟩, ?_⟩
    show Steps p.tables e below _ (((({ U with heap := s₂.heap, slotsUsed := s₂.slotsUsed } : State).setVm s₂.vm).setTop g).pushFrame (.throwing q))
    rw [← hs₂]
    exact hsteps
end
variable {p : Program} {l : Launch} {e : Env} {R : Room} {s : State} {m : MethodId} {args : Array Value} {below : List Frame} {meth : Method} {c : Code} {T : State} {H : Heap} {locs : List Loc} {cells slots : Nat}
theorem vx_callVX (X : Stand p l e R s m args below meth c T locs cells slots) (hexec : p.tables.exec = Jvm.exec) {own C : String} {index : Nat} {y : MethodName} {bytes : ByteArray} {maxL : Nat} {ret : Option FieldType} {hh : List (Nat × Nat × Nat × Nat)}
    (hown : s.vm.findClass own = some m.cls) (hlink : (Cond.methodLink own index y).before args s = true) (hinst : (Cond.instanceMethod y).before args s = true) (hsel : (Cond.selects C y y).before args s = true)
    (hcode : (Cond.codeWith y bytes maxL ret hh).before args s = true) (hy : y.cls ≠ "java/lang/invoke/MethodHandle" ∧ y.cls ≠ "java/lang/invoke/VarHandle")
    {W9 : Nat} {Pre : Pt → Array Value → Prop} {Post : Pt → Array Value → Option Value → Pt → Prop} {PostX : Pt → Array Value → Addr → Pt → Prop} (hK : vx_Back l R p e below s args y 3 W9 Pre Post PostX)
    {b : Addr} {cellB : Cell} (hcell : T.heap[b]? = some cellB) (hobj : cellB.vm.isStatics = false) (hcls : s.vm.findClass C = some cellB.cls)
    {g : JFrame} (hg : g.method = m) (hsize : g.locals.size = c.maxLocals) {argsL rest : List Value} (hlen : ∀ sig, parseMethodDescriptor y.desc = some sig → argsL.length = sig.parameters.length)
    (hstack : g.stack = argsL.reverse ++ .ref b :: rest) (hW : 2 * g.monitorRoom + (rest.map fun v => v.category).sum ≤ W9) (hdg : decode c.code g.pc = .ok (.invokevirtual index, 3))
    (hpre : ∀ vm₁, s.WarmedH vm₁ → Pre ⟨T.setVm vm₁, locs, cells, slots⟩ (Value.ref b :: argsL).toArray) :
    (∃ (v : Option Value) (vm₁ : Vm) (B : Pt), s.WarmedH vm₁ ∧ Stand p l e R s m args below meth c B.U B.locs B.cells B.slots ∧ Post ⟨T.setVm vm₁, locs, cells, slots⟩ (Value.ref b :: argsL).toArray v B ∧
      ∀ target, Steps p.tables e below (B.U.setTop { g with pc := g.pc + 3, stack := v.toList ++ rest }) target → Steps p.tables e below (T.setTop g) target) ∨
    (∃ (q : Addr) (vm₁ : Vm) (B : Pt), s.WarmedH vm₁ ∧ Stand p l e R s m args below meth c B.U B.locs B.cells B.slots ∧ PostX ⟨T.setVm vm₁, locs, cells, slots⟩ (Value.ref b :: argsL).toArray q B ∧
      Steps p.tables e below (T.setTop g) ((B.U.setTop { g with stack := rest }).pushFrame (.throwing q))) := by
  obtain ⟨mk, methM, hnamed, hmethM, hstM, habM⟩ := Cond.instanceMethod_spec hinst
  obtain ⟨m8, methM', cM, hn8, hmethM', -, -, -, -, -, -, hsigM⟩ := Cond.codeWith_spec hcode
  cases Option.some.inj (hn8.symm.trans hnamed)
  cases hmethM.symm.trans hmethM'
  obtain ⟨c2, r2, m2, q1, q2, q3, q4, kP, hkP, hkPi⟩ := Cond.selects_spec hsel
  cases hcls.symm.trans q1
  cases (State.methodFound?_of_named hnamed hy).symm.trans q2
  cases hnamed.symm.trans q3
  have hselP : selectMethod e.platform s.vm cellB.cls mk = .method mk := by rw [Launch.admits_selectMethod X.admits]; exact q4
  obtain ⟨vm₁, X₁, hstep₁⟩ := X.invokevirtual hexec hown hlink hnamed hmethM hstM hkP hkPi hy (a := b) (cell := cellB) hcell
    (fun z h => by rw [h] at hobj; cases hobj) hselP hmethM habM hkP hkPi (g := g) hg (argsL := argsL) (rest := rest) (hlen _ hsigM) hstack hdg
  rcases hK m meth c ⟨T.setVm vm₁, locs, cells, slots⟩ { g with stack := rest } (.invokevirtual index) mk (Value.ref b :: argsL).toArray X₁ hg hsize hdg hW (X₁.named hnamed) (hpre vm₁ X₁.warmed) with ⟨v, B, X', hpost, hsteps⟩ | ⟨q, B, X', hpost, hsteps⟩
  · exact Or.inl ⟨v, vm₁, B, X₁.warmed, X', hpost, fun target h => hstep₁ _ fun acts => by rw [doInvoke_state]; exact hsteps.trans h⟩
  · exact Or.inr ⟨q, vm₁, B, X₁.warmed, X', hpost, hstep₁ _ fun acts => by rw [doInvoke_state]; exact hsteps⟩
theorem vx_callSX (X : Stand p l e R s m args below meth c T locs cells slots) (hexec : p.tables.exec = Jvm.exec) {own : String} {index : Nat} {y : MethodName} {bytes : ByteArray} {maxL : Nat} {ret : Option FieldType} {hh : List (Nat × Nat × Nat × Nat)}
    (hown : s.vm.findClass own = some m.cls) (hlink : (Cond.methodLink own index y).before args s = true) (hstat : (Cond.static y).before args s = true) (hinit : (Cond.initialized y.cls).before args s = true)
    (hcode : (Cond.codeWith y bytes maxL ret hh).before args s = true) (hy : y.cls ≠ "java/lang/invoke/MethodHandle" ∧ y.cls ≠ "java/lang/invoke/VarHandle")
    {W9 : Nat} {Pre : Pt → Array Value → Prop} {Post : Pt → Array Value → Option Value → Pt → Prop} {PostX : Pt → Array Value → Addr → Pt → Prop} (hK : vx_Back l R p e below s args y 3 W9 Pre Post PostX)
    {g : JFrame} (hg : g.method = m) (hsize : g.locals.size = c.maxLocals) {argsL rest : List Value} (hlen : ∀ sig, parseMethodDescriptor y.desc = some sig → argsL.length = sig.parameters.length)
    (hstack : g.stack = argsL.reverse ++ rest) (hW : 2 * g.monitorRoom + (rest.map fun v => v.category).sum ≤ W9) (hdg : decode c.code g.pc = .ok (.invokestatic index, 3))
    (hpre : ∀ vm₁, s.WarmedH vm₁ → Pre ⟨T.setVm vm₁, locs, cells, slots⟩ argsL.toArray) :
    (∃ (v : Option Value) (vm₁ : Vm) (B : Pt), s.WarmedH vm₁ ∧ Stand p l e R s m args below meth c B.U B.locs B.cells B.slots ∧ Post ⟨T.setVm vm₁, locs, cells, slots⟩ argsL.toArray v B ∧
      ∀ target, Steps p.tables e below (B.U.setTop { g with pc := g.pc + 3, stack := v.toList ++ rest }) target → Steps p.tables e below (T.setTop g) target) ∨
    (∃ (q : Addr) (vm₁ : Vm) (B : Pt), s.WarmedH vm₁ ∧ Stand p l e R s m args below meth c B.U B.locs B.cells B.slots ∧ PostX ⟨T.setVm vm₁, locs, cells, slots⟩ argsL.toArray q B ∧
      Steps p.tables e below (T.setTop g) ((B.U.setTop { g with stack := rest }).pushFrame (.throwing q))) := by
  obtain ⟨mk, methM, cM, hnamed, hmethM, -, -, -, -, -, -, hsigM⟩ := Cond.codeWith_spec hcode
  have hstatic : methM.isStatic = true := Cond.static_spec hnamed hmethM hstat
  obtain ⟨kP, hkP, -⟩ := className_of_methodNamed hnamed
  have hinitP : kP.init = .initialized := Cond.initialized_spec (findClass_of_methodNamed hnamed) hkP hinit
  obtain ⟨vm₁, X₁, hstep₁⟩ := X.invokestatic hexec hown hlink hnamed hmethM hstatic hkP hinitP hy (g := g) hg (argsL := argsL) (rest := rest) (hlen _ hsigM) hstack hdg
  rcases hK m meth c ⟨T.setVm vm₁, locs, cells, slots⟩ { g with stack := rest } (.invokestatic index) mk argsL.toArray X₁ hg hsize hdg hW (X₁.named hnamed) (hpre vm₁ X₁.warmed) with ⟨v, B, X', hpost, hsteps⟩ | ⟨q, B, X', hpost, hsteps⟩
  · exact Or.inl ⟨v, vm₁, B, X₁.warmed, X', hpost, fun target h => hstep₁ _ fun acts => by rw [doInvoke_state]; exact hsteps.trans h⟩
  · exact Or.inr ⟨q, vm₁, B, X₁.warmed, X', hpost, hstep₁ _ fun acts => by rw [doInvoke_state]; exact hsteps⟩
theorem vx_callVW (X : Stand p l e R s m args below meth c T locs cells slots) (hexec : p.tables.exec = Jvm.exec) {own C : String} {index : Nat} {y : MethodName} {bytes : ByteArray} {maxL : Nat} {ret : Option FieldType} {hh : List (Nat × Nat × Nat × Nat)}
    (hown : s.vm.findClass own = some m.cls) (hlink : (Cond.methodLink own index y).before args s = true) (hinst : (Cond.instanceMethod y).before args s = true) (hsel : (Cond.selects C y y).before args s = true)
    (hcode : (Cond.codeWith y bytes maxL ret hh).before args s = true) (hy : y.cls ≠ "java/lang/invoke/MethodHandle" ∧ y.cls ≠ "java/lang/invoke/VarHandle")
    {W9 : Nat} {Pre : Pt → Array Value → Prop} {Post : Pt → Array Value → Option Value → Pt → Prop} (hK : Back l R p e below s args y 3 W9 Pre Post)
    {b : Addr} {cellB : Cell} (hcell : T.heap[b]? = some cellB) (hobj : cellB.vm.isStatics = false) (hcls : s.vm.findClass C = some cellB.cls)
    {g : JFrame} (hg : g.method = m) (hsize : g.locals.size = c.maxLocals) {argsL rest : List Value} (hlen : ∀ sig, parseMethodDescriptor y.desc = some sig → argsL.length = sig.parameters.length)
    (hstack : g.stack = argsL.reverse ++ .ref b :: rest) (hW : 2 * g.monitorRoom + (rest.map fun v => v.category).sum ≤ W9) (hdg : decode c.code g.pc = .ok (.invokevirtual index, 3))
    (hpre : ∀ vm₁, s.WarmedH vm₁ → Pre ⟨T.setVm vm₁, locs, cells, slots⟩ (Value.ref b :: argsL).toArray) :
    ∃ (v : Option Value) (vm₁ : Vm) (B : Pt), s.WarmedH vm₁ ∧ Stand p l e R s m args below meth c B.U B.locs B.cells B.slots ∧ Post ⟨T.setVm vm₁, locs, cells, slots⟩ (Value.ref b :: argsL).toArray v B ∧
      ∀ target, Steps p.tables e below (B.U.setTop { g with pc := g.pc + 3, stack := v.toList ++ rest }) target → Steps p.tables e below (T.setTop g) target := by
  obtain ⟨mk, methM, hnamed, hmethM, hstM, habM⟩ := Cond.instanceMethod_spec hinst
  obtain ⟨m8, methM', cM, hn8, hmethM', -, -, -, -, -, -, hsigM⟩ := Cond.codeWith_spec hcode
  cases Option.some.inj (hn8.symm.trans hnamed)
  cases hmethM.symm.trans hmethM'
  obtain ⟨c2, r2, m2, q1, q2, q3, q4, kP, hkP, hkPi⟩ := Cond.selects_spec hsel
  cases hcls.symm.trans q1
  cases (State.methodFound?_of_named hnamed hy).symm.trans q2
  cases hnamed.symm.trans q3
  have hselP : selectMethod e.platform s.vm cellB.cls mk = .method mk := by rw [Launch.admits_selectMethod X.admits]; exact q4
  obtain ⟨vm₁, X₁, hstep₁⟩ := X.invokevirtual hexec hown hlink hnamed hmethM hstM hkP hkPi hy (a := b) (cell := cellB) hcell
    (fun z h => by rw [h] at hobj; cases hobj) hselP hmethM habM hkP hkPi (g := g) hg (argsL := argsL) (rest := rest) (hlen _ hsigM) hstack hdg
  obtain ⟨v, B, X', hpost, hsteps⟩ := hK m meth c ⟨T.setVm vm₁, locs, cells, slots⟩ { g with stack := rest } (.invokevirtual index) mk (Value.ref b :: argsL).toArray X₁ hg hsize hdg hW (X₁.named hnamed) (hpre vm₁ X₁.warmed)
  exact ⟨v, vm₁, B, X₁.warmed, X', hpost, fun target h => hstep₁ _ fun acts => by rw [doInvoke_state]; exact hsteps.trans h⟩
abbrev vx_CVW (R : Room) (s : State) (args : Array Value) (own C : String) (index : Nat) (y : MethodName) (bytes : ByteArray) (maxL : Nat) (ret : Option FieldType) (hh : List (Nat × Nat × Nat × Nat)) (ws : List Cond) (rm : Room) (mc ms n : Nat) : Prop :=
  (rm.cells = mc ∧ rm.slots = ms ∧ rm.frames + 1 ≤ R.frames ∧ 8 + (maxL + 11) + rm.locals ≤ R.locals ∧ (∀ w ∈ ws, ∀ (a' : Array Value) (U : State), s.WarmedH U.vm → w.before a' U = true) ∧ Cond.codeWith y bytes maxL ret hh ∈ ws) ∧
  (Cond.codeWith y bytes maxL ret hh).before args s = true ∧ (Cond.initialized y.cls).before args s = true ∧ (y.cls ≠ "java/lang/invoke/MethodHandle" ∧ y.cls ≠ "java/lang/invoke/VarHandle") ∧
  (∀ sig, parseMethodDescriptor y.desc = some sig → n = sig.parameters.length) ∧ (Cond.methodLink own index y).before args s = true ∧ (Cond.instanceMethod y).before args s = true ∧ (Cond.selects C y y).before args s = true
theorem vx_cwVW {own C : String} {index maxL mc ms : Nat} {y : MethodName} {bytes : ByteArray} {ret : Option FieldType} {hh : List (Nat × Nat × Nat × Nat)} {Ts ws ws' : List Cond} {rm : Room} (n : Nat) (ht : ∀ w ∈ Ts, w.before args s = true) (hT : GoodIn Ts (wsV own index C y ws)) (hw : ws = Cond.codeWith y bytes maxL ret hh :: ws') (hrc : rm.cells = mc) (hrs : rm.slots = ms)
    (hd : y.cls = C ∧ y.cls ≠ "java/lang/invoke/MethodHandle" ∧ y.cls ≠ "java/lang/invoke/VarHandle" ∧ (parseMethodDescriptor y.desc).map (fun d => d.parameters.length) = some n) (hR : rm.frames + 1 ≤ R.frames ∧ 8 + (maxL + 11) + rm.locals ≤ R.locals) :
    vx_CVW R s args own C index y bytes maxL ret hh ws rm mc ms n := by
  obtain ⟨hC, hd⟩ := hd
  subst hC
  have ok : ∀ w ∈ wsV own index y.cls y ws, w.before args s = true := fun w h => ht w (hT w h).1
  have hG : GoodIn Ts ws := fun w h => hT w (by unfold wsV; exact List.mem_append_right _ h)
  have hc : Cond.codeWith y bytes maxL ret hh ∈ ws := by rw [hw]; exact List.mem_cons_self
  refine ⟨⟨hrc, hrs, hR.1, hR.2, pay_in ht hG, hc⟩, ht _ (hG _ hc).1, ok _ (by simp [wsV]), ⟨hd.1, hd.2.1⟩, fun sig h => ?_, ok _ (by simp [wsV]), ok _ (by simp [wsV]), ok _ (by simp [wsV])⟩
  have h2 := hd.2.2
  rw [h] at h2
  exact (Option.some.inj h2).symm
theorem vx_runVW {y : MethodName} {bytes cc : ByteArray} {maxL nL mc ms n index : Nat} {ret : Option FieldType} {hh : List (Nat × Nat × Nat × Nat)} {ws : List Cond} {rm : Room} {Pc : Array Value → State → Prop} {Qc : Array Value → State → Outcome → State → Prop} {free : Addr → Prop} {Ts : List Cond} {own C : String} {b : Addr} {As rest : List Value} {g : JFrame}
    (S : CallFix p m c cc nL s args Ts own) (hM : Met l y ws rm Pc Qc mc ms free) (cw : vx_CVW R s args own C index y bytes maxL ret hh ws rm mc ms n) (hp : PreV s H C b Pc As)
    (hg : g.method = m) (hn : As.length = n) (hsize : g.locals.size = nL) (hstack : g.stack = As.reverse ++ .ref b :: rest) (hW : 2 * g.monitorRoom + (rest.map fun v => v.category).sum ≤ 8) (hdg : decode cc g.pc = .ok (.invokevirtual index, 3)) (hf : cells + mc ≤ R.cells ∧ slots + ms ≤ R.slots) :
    va_Run p l e R s m args below meth c H locs cells slots mc ms g rest (Qc (Value.ref b :: As).toArray) free := by
  obtain ⟨⟨hrc, hrs, hfr, hlo, hws, hcw⟩, hcode, hini, hy, hlen, hl, hin, hse⟩ := cw
  have hK : Back l R p e below s args y 3 8 (PreOf R mc ms Pc) (PostOf Qc mc ms free) := va_backW (hh := hh) (bytes := bytes) (maxL := maxL) (ret := ret) hM hp.1 hrc hrs hfr hlo hws hcw (fun a' U hW => word_at hW (Or.inl (by first | rfl | simp [Cond.onTables, Cond.keeps, Cond.steady])) hini)
  obtain ⟨hx, hb, hml, ho, -⟩ := S
  obtain ⟨-, ⟨cellB, hcB, hoB, hclB⟩, hPc⟩ := hp
  intro T hT X
  obtain ⟨v, vm₁, ⟨U', l2, c2, s2⟩, hW₁, X', ⟨g', mk, t, L, e1, e2, hq, h1, hL, h2, h3⟩, st⟩ := vx_callVW X hx (C := C) (hh := hh) (bytes := bytes) (maxL := maxL) (ret := ret) ho hl hin hse hcode hy hK (by rw [hT]; exact hcB) hoB hclB hg (hsize.trans hml.symm) (argsL := As) (rest := rest) (fun sig h => hn.trans (hlen sig h)) hstack hW (by rw [hb]; exact hdg)
    (fun vm₁ hW₁ => ⟨hf.1, hf.2, hPc (T.setVm vm₁) hT hW₁⟩)
  dsimp only [Pt.U, Pt.locs, Pt.cells, Pt.slots] at X' e1 e2 h1 h2 h3 st
  subst h1; subst h2; subst h3
  exact ⟨v, (T.setVm vm₁).calling g' mk (Value.ref b :: As).toArray, t, U', L, hT, X', hL, e1, e2, hq, st⟩
section
variable {y : MethodName} {bytes cc : ByteArray} {maxL nL mc ms n index : Nat} {ret : Option FieldType} {ws : List Cond} {rm : Room} {Pc : Array Value → State → Prop} {Qc : Array Value → State → Outcome → State → Prop} {XC : String → State → State → Prop} {free : Addr → Prop} {Ts : List Cond} {own C : String} {b : Addr} {As rest : List Value} {g : JFrame}
theorem vx_runVX {hh : List (Nat × Nat × Nat × Nat)} (S : CallFix p m c cc nL s args Ts own) (hM : vx_Met l y ws rm Pc Qc XC mc ms free) (cw : vx_CVW R s args own C index y bytes maxL ret hh ws rm mc ms n) (hp : PreV s H C b Pc As)
    (hg : g.method = m) (hn : As.length = n) (hsize : g.locals.size = nL) (hstack : g.stack = As.reverse ++ .ref b :: rest) (hW : 2 * g.monitorRoom + (rest.map fun v => v.category).sum ≤ 8) (hdg : decode cc g.pc = .ok (.invokevirtual index, 3)) (hf : cells + mc ≤ R.cells ∧ slots + ms ≤ R.slots) :
    vx_Run p l e R s m args below meth c H locs cells slots mc ms g rest (Qc (Value.ref b :: As).toArray) XC free := by
  obtain ⟨⟨hrc, hrs, hfr, hlo, hws, hcw⟩, hcode, hini, hy, hlen, hl, hin, hse⟩ := cw
  have hK : vx_Back l R p e below s args y 3 8 (PreOf R mc ms Pc) (PostOf Qc mc ms free) (vx_Post XC mc ms free) := vx_backW (hh := hh) (bytes := bytes) (maxL := maxL) (ret := ret) hM hp.1 hrc hrs hfr hlo hws hcw (fun a' U hW => word_at hW (Or.inl (by first | rfl | simp [Cond.onTables, Cond.keeps, Cond.steady])) hini)
  obtain ⟨hx, hb, hml, ho, -⟩ := S
  obtain ⟨-, ⟨cellB, hcB, hoB, hclB⟩, hPc⟩ := hp
  intro T hT X
  rcases vx_callVX X hx (C := C) (hh := hh) (bytes := bytes) (maxL := maxL) (ret := ret) ho hl hin hse hcode hy hK (by rw [hT]; exact hcB) hoB hclB hg (hsize.trans hml.symm) (argsL := As) (rest := rest) (fun sig h => hn.trans (hlen sig h)) hstack hW (by rw [hb]; exact hdg)
    (fun vm₁ hW₁ => ⟨hf.1, hf.2, hPc (T.setVm vm₁) hT hW₁⟩) with ⟨v, vm₁, ⟨U', l2, c2, s2⟩, hW₁, X', ⟨g', mk, t, L, e1, e2, hq, h1, hL, h2, h3⟩, st⟩ | ⟨q, vm₁, ⟨U', l2, c2, s2⟩, hW₁, X', ⟨g', mk, t, L, E, ce, e1, e2, hq, hce, hcv, hcl, h1, hL, h2, h3⟩, st⟩
  · dsimp only [Pt.U, Pt.locs, Pt.cells, Pt.slots] at X' e1 e2 h1 h2 h3 st
    subst h1; subst h2; subst h3
    exact Or.inl ⟨v, (T.setVm vm₁).calling g' mk (Value.ref b :: As).toArray, t, U', L, hT, X', hL, e1, e2, hq, st⟩
  · dsimp only [Pt.U, Pt.locs, Pt.cells, Pt.slots] at X' e1 e2 h1 h2 h3 st hcl
    subst h1; subst h2; subst h3
    exact Or.inr ⟨q, (T.setVm vm₁).calling g' mk (Value.ref b :: As).toArray, t, U', L, E, ce, hT, X', hL, e1, e2, hq, hce, hcv, vx_cls hW₁ hcl, st⟩
theorem vx_runSX {hh : List (Nat × Nat × Nat × Nat)} (S : CallFix p m c cc nL s args Ts own) (hM : vx_Met l y ws rm Pc Qc XC mc ms free) (cw : vx_CSW R s args own index y bytes maxL ret hh ws rm mc ms n) (hp : PreS s H Pc As)
    (hg : g.method = m) (hn : As.length = n) (hsize : g.locals.size = nL) (hstack : g.stack = As.reverse ++ rest) (hW : 2 * g.monitorRoom + (rest.map fun v => v.category).sum ≤ 8) (hdg : decode cc g.pc = .ok (.invokestatic index, 3)) (hf : cells + mc ≤ R.cells ∧ slots + ms ≤ R.slots) :
    vx_Run p l e R s m args below meth c H locs cells slots mc ms g rest (Qc As.toArray) XC free := by
  obtain ⟨⟨hrc, hrs, hfr, hlo, hws, hcw⟩, hcode, hini, hy, hlen, hl, hstt⟩ := cw
  have hK : vx_Back l R p e below s args y 3 8 (PreOf R mc ms Pc) (PostOf Qc mc ms free) (vx_Post XC mc ms free) := vx_backW (hh := hh) (bytes := bytes) (maxL := maxL) (ret := ret) hM hp.1 hrc hrs hfr hlo hws hcw (fun a' U hW => word_at hW (Or.inl (by first | rfl | simp [Cond.onTables, Cond.keeps, Cond.steady])) hini)
  obtain ⟨hx, hb, hml, ho, -⟩ := S
  intro T hT X
  rcases vx_callSX X hx (hh := hh) (bytes := bytes) (maxL := maxL) (ret := ret) ho hl hstt hini hcode hy hK hg (hsize.trans hml.symm) (argsL := As) (rest := rest) (fun sig h => hn.trans (hlen sig h)) hstack hW (by rw [hb]; exact hdg)
    (fun vm₁ hW₁ => ⟨hf.1, hf.2, hp.2 (T.setVm vm₁) hT hW₁⟩) with ⟨v, vm₁, ⟨U', l2, c2, s2⟩, hW₁, X', ⟨g', mk, t, L, e1, e2, hq, h1, hL, h2, h3⟩, st⟩ | ⟨q, vm₁, ⟨U', l2, c2, s2⟩, hW₁, X', ⟨g', mk, t, L, E, ce, e1, e2, hq, hce, hcv, hcl, h1, hL, h2, h3⟩, st⟩
  · dsimp only [Pt.U, Pt.locs, Pt.cells, Pt.slots] at X' e1 e2 h1 h2 h3 st
    subst h1; subst h2; subst h3
    exact Or.inl ⟨v, (T.setVm vm₁).calling g' mk As.toArray, t, U', L, hT, X', hL, e1, e2, hq, st⟩
  · dsimp only [Pt.U, Pt.locs, Pt.cells, Pt.slots] at X' e1 e2 h1 h2 h3 st hcl
    subst h1; subst h2; subst h3
    exact Or.inr ⟨q, (T.setVm vm₁).calling g' mk As.toArray, t, U', L, E, ce, hT, X', hL, e1, e2, hq, hce, hcv, vx_cls hW₁ hcl, st⟩
end
end VXH
theorem vx_ofWH {l : Launch} {y : MethodName} {ws ws' : List Cond} {rm : Room} {Pc : Array Value → State → Prop} {Qc : Array Value → State → Outcome → State → Prop} {XC : String → State → State → Prop} {mc ms : Nat} {free : Addr → Prop} {cc : ByteArray} {maxL : Nat} {ret : Option FieldType} {hh : List (Nat × Nat × Nat × Nat)}
    (hy : plainName y.cls = true) (hw : ws = Cond.codeWith y cc maxL ret hh :: ws')
    (body : ∀ p e s m args below meth c s₁, BodyLoose p l y (headSpec ws rm) cc maxL ret e s m args below meth c s₁ → c.maxLocals = maxL → Pc args s →
      W p l e (headSpec ws rm).room s m args below meth c s.heap [] 0 0 (vx_MQ below Qc XC args s mc ms free) (entryFrame m args maxL)) : vx_Met l y ws rm Pc Qc XC mc ms free := by
  refine MetFree.of_bodyS (code := cc) (maxLocals := maxL) (ret := ret) hy ?_ ?_
  · intro args s m h hn
    obtain ⟨m9, meth, c, hn9, h1, h2, h3, h4, -, h5, h6, -⟩ := Cond.codeWith_spec (atoms_spec (ws := ws) h _ (by rw [hw]; exact List.mem_cons_self))
    cases hn.symm.trans hn9
    exact ⟨meth, c, h1, h2, h3, h4, h5, h6⟩
  · intro p e s m args below meth c s₁ B hml hP _
    have hh0 : s₁.heap = s.heap := by rw [B.state]; rfl
    obtain ⟨t, a1, o, b1, b2, b3⟩ := body p e s m args below meth c s₁ B hml hP s₁ hh0 (Stand.of_body B)
    exact ⟨t, o, a1, b1, b2, b3⟩
/-! ===== END ===== -/

/-! ===== BEGIN printed: names, fields, word lists, decode rows ===== -/
def RX0 : String := "PhaseConverter$History"
def TX0 : u_T := fun k => match k with
  | 0 => ("PhaseConverter$History", "parts", "[I", true)
  | 1 => ("PhaseConverter$History", "size", "I", false)
  | _ => ("PhaseConverter$History", "newest", "I", false)
def tyX0 : Nat → FieldType := fun k => match k with
  | 0 => .array .int
  | 1 => .int
  | _ => .int
abbrev wsX00 : List Cond := u_ws RX0 TX0 3
theorem nmX0 : ∀ a, a < 3 → ∀ b, b < 3 → a ≠ b → (TX0 a).2.1 ≠ (TX0 b).2.1 := by decide +kernel
theorem tyX0_ok : ∀ k, k < 3 → parseFieldDescriptor (TX0 k).2.2.1 = some (tyX0 k) := by decide +kernel
abbrev cX0_init : ByteArray := prog_2_method_1_code
def yX0_init : MethodName := ⟨RX0, "<init>", "()V"⟩
abbrev cX0_forget : ByteArray := prog_2_method_2_code
def yX0_forget : MethodName := ⟨RX0, "forget", "()V"⟩
abbrev cX0_keep : ByteArray := prog_2_method_3_code
def yX0_keep : MethodName := ⟨RX0, "keep", "(LPhaseConverter$Plant;I)V"⟩
abbrev cX0_part : ByteArray := prog_2_method_4_code
def yX0_part : MethodName := ⟨RX0, "part", "(II)I"⟩
def RX1 : String := "PhaseConverter$Phase"
def TX1 : u_T := fun k => match k with
  | 0 => ("PhaseConverter$Phase", "current", "I", false)
  | 1 => ("PhaseConverter$Phase", "onTime", "I", false)
  | 2 => ("PhaseConverter$Phase", "rest", "I", false)
  | 3 => ("PhaseConverter$Phase", "onSlots", "I", false)
  | 4 => ("PhaseConverter$Phase", "limitEvents", "I", false)
  | 5 => ("PhaseConverter$Phase", "skipped", "I", false)
  | _ => ("PhaseConverter$Phase", "pulses", "I", false)
def tyX1 : Nat → FieldType := fun k => match k with
  | 0 => .int
  | 1 => .int
  | 2 => .int
  | 3 => .int
  | 4 => .int
  | 5 => .int
  | _ => .int
abbrev wsX10 : List Cond := u_ws RX1 TX1 7
theorem nmX1 : ∀ a, a < 7 → ∀ b, b < 7 → a ≠ b → (TX1 a).2.1 ≠ (TX1 b).2.1 := by decide +kernel
theorem tyX1_ok : ∀ k, k < 7 → parseFieldDescriptor (TX1 k).2.2.1 = some (tyX1 k) := by decide +kernel
abbrev cX1_init : ByteArray := prog_3_method_1_code
def yX1_init : MethodName := ⟨RX1, "<init>", "()V"⟩
abbrev cX1_reset : ByteArray := prog_3_method_2_code
def yX1_reset : MethodName := ⟨RX1, "reset", "()V"⟩
abbrev cX1_copyFrom : ByteArray := prog_3_method_3_code
def yX1_copyFrom : MethodName := ⟨RX1, "copyFrom", "(LPhaseConverter$Phase;)V"⟩
abbrev cX1_skipPulse : ByteArray := prog_3_method_4_code
def yX1_skipPulse : MethodName := ⟨RX1, "skipPulse", "()V"⟩
abbrev cX1_beginPulse : ByteArray := prog_3_method_5_code
def yX1_beginPulse : MethodName := ⟨RX1, "beginPulse", "(I)V"⟩
abbrev cX1_passSlot : ByteArray := prog_3_method_6_code
def yX1_passSlot : MethodName := ⟨RX1, "passSlot", "(III)V"⟩
abbrev cX1_property : ByteArray := prog_3_method_7_code
def yX1_property : MethodName := ⟨RX1, "property", "(I)I"⟩
def RX2 : String := "PhaseConverter$Plant"
def TX2 : u_T := fun k => match k with
  | 0 => ("PhaseConverter$Plant", "settings", "[I", true)
  | 1 => ("PhaseConverter$Plant", "phases", "[LPhaseConverter$Phase;", true)
  | 2 => ("PhaseConverter$Plant", "phaseCount", "I", false)
  | 3 => ("PhaseConverter$Plant", "active", "I", false)
  | 4 => ("PhaseConverter$Plant", "mode", "I", false)
  | 5 => ("PhaseConverter$Plant", "voltage", "I", false)
  | 6 => ("PhaseConverter$Plant", "presentTarget", "I", false)
  | 7 => ("PhaseConverter$Plant", "integral", "I", false)
  | 8 => ("PhaseConverter$Plant", "duty", "I", false)
  | 9 => ("PhaseConverter$Plant", "addingCount", "I", false)
  | 10 => ("PhaseConverter$Plant", "sheddingCount", "I", false)
  | 11 => ("PhaseConverter$Plant", "cycles", "I", false)
  | 12 => ("PhaseConverter$Plant", "meanCurrent", "I", false)
  | 13 => ("PhaseConverter$Plant", "leastVoltage", "I", false)
  | 14 => ("PhaseConverter$Plant", "greatestVoltage", "I", false)
  | 15 => ("PhaseConverter$Plant", "peakCurrent", "I", false)
  | _ => ("PhaseConverter$Plant", "changes", "I", false)
def tyX2 : Nat → FieldType := fun k => match k with
  | 0 => .array .int
  | 1 => .array (.object "PhaseConverter$Phase")
  | 2 => .int
  | 3 => .int
  | 4 => .int
  | 5 => .int
  | 6 => .int
  | 7 => .int
  | 8 => .int
  | 9 => .int
  | 10 => .int
  | 11 => .int
  | 12 => .int
  | 13 => .int
  | 14 => .int
  | 15 => .int
  | _ => .int
abbrev wsX20 : List Cond := u_ws RX2 TX2 17
theorem nmX2 : ∀ a, a < 17 → ∀ b, b < 17 → a ≠ b → (TX2 a).2.1 ≠ (TX2 b).2.1 := by decide +kernel
theorem tyX2_ok : ∀ k, k < 17 → parseFieldDescriptor (TX2 k).2.2.1 = some (tyX2 k) := by decide +kernel
abbrev cX2_init : ByteArray := prog_4_method_1_code
def yX2_init : MethodName := ⟨RX2, "<init>", "(I)V"⟩
abbrev cX2_reset : ByteArray := prog_4_method_2_code
def yX2_reset : MethodName := ⟨RX2, "reset", "(I)V"⟩
abbrev cX2_copyFrom : ByteArray := prog_4_method_3_code
def yX2_copyFrom : MethodName := ⟨RX2, "copyFrom", "(LPhaseConverter$Plant;)V"⟩
abbrev cX2_runs : ByteArray := prog_4_method_4_code
def yX2_runs : MethodName := ⟨RX2, "runs", "()Z"⟩
abbrev cX2_softStart : ByteArray := prog_4_method_5_code
def yX2_softStart : MethodName := ⟨RX2, "softStart", "()V"⟩
abbrev cX2_halt : ByteArray := prog_4_method_6_code
def yX2_halt : MethodName := ⟨RX2, "halt", "(I)V"⟩
abbrev cX2_passCycle : ByteArray := prog_4_method_7_code
def yX2_passCycle : MethodName := ⟨RX2, "passCycle", "()V"⟩
abbrev cX2_moveTarget : ByteArray := prog_4_method_8_code
def yX2_moveTarget : MethodName := ⟨RX2, "moveTarget", "()V"⟩
abbrev cX2_regulate : ByteArray := prog_4_method_9_code
def yX2_regulate : MethodName := ⟨RX2, "regulate", "()V"⟩
abbrev cX2_adaptPhases : ByteArray := prog_4_method_10_code
def yX2_adaptPhases : MethodName := ⟨RX2, "adaptPhases", "()V"⟩
abbrev cX2_changeActive : ByteArray := prog_4_method_11_code
def yX2_changeActive : MethodName := ⟨RX2, "changeActive", "(I)V"⟩
abbrev cX2_beginPulses : ByteArray := prog_4_method_12_code
def yX2_beginPulses : MethodName := ⟨RX2, "beginPulses", "(I)V"⟩
abbrev cX2_beginPulse : ByteArray := prog_4_method_13_code
def yX2_beginPulse : MethodName := ⟨RX2, "beginPulse", "(LPhaseConverter$Phase;)V"⟩
abbrev cX2_activeCurrents : ByteArray := prog_4_method_14_code
def yX2_activeCurrents : MethodName := ⟨RX2, "activeCurrents", "()I"⟩
abbrev cX2_moveCurrents : ByteArray := prog_4_method_15_code
def yX2_moveCurrents : MethodName := ⟨RX2, "moveCurrents", "()I"⟩
abbrev cX2_moveVoltage : ByteArray := prog_4_method_16_code
def yX2_moveVoltage : MethodName := ⟨RX2, "moveVoltage", "(I)V"⟩
abbrev cX2_limitEvents : ByteArray := prog_4_method_17_code
def yX2_limitEvents : MethodName := ⟨RX2, "limitEvents", "()I"⟩
abbrev cX2_skippedPulses : ByteArray := prog_4_method_18_code
def yX2_skippedPulses : MethodName := ⟨RX2, "skippedPulses", "()I"⟩
abbrev cX2_ripple : ByteArray := prog_4_method_19_code
def yX2_ripple : MethodName := ⟨RX2, "ripple", "()I"⟩
abbrev cX2_currentSpread : ByteArray := prog_4_method_20_code
def yX2_currentSpread : MethodName := ⟨RX2, "currentSpread", "()I"⟩
abbrev cX2_number : ByteArray := prog_4_method_21_code
def yX2_number : MethodName := ⟨RX2, "number", "(I)I"⟩
def RX3 : String := "PhaseConverter$Program"
def TX3 : u_T := fun k => match k with
  | 0 => ("PhaseConverter$Program", "codes", "[I", true)
  | _ => ("PhaseConverter$Program", "length", "I", false)
def tyX3 : Nat → FieldType := fun k => match k with
  | 0 => .array .int
  | _ => .int
abbrev wsX30 : List Cond := u_ws RX3 TX3 2
theorem nmX3 : ∀ a, a < 2 → ∀ b, b < 2 → a ≠ b → (TX3 a).2.1 ≠ (TX3 b).2.1 := by decide +kernel
theorem tyX3_ok : ∀ k, k < 2 → parseFieldDescriptor (TX3 k).2.2.1 = some (tyX3 k) := by decide +kernel
abbrev cX3_init : ByteArray := prog_5_method_1_code
def yX3_init : MethodName := ⟨RX3, "<init>", "()V"⟩
abbrev cX3_take : ByteArray := prog_5_method_2_code
def yX3_take : MethodName := ⟨RX3, "take", "(I)Z"⟩
abbrev cX3_codeAt : ByteArray := prog_5_method_3_code
def yX3_codeAt : MethodName := ⟨RX3, "codeAt", "(I)I"⟩
abbrev cX3_errorIndex : ByteArray := prog_5_method_4_code
def yX3_errorIndex : MethodName := ⟨RX3, "errorIndex", "()I"⟩
abbrev cX3_isComplete : ByteArray := prog_5_method_5_code
def yX3_isComplete : MethodName := ⟨RX3, "isComplete", "()Z"⟩
abbrev cX3_stateAfter : ByteArray := prog_5_method_6_code
def yX3_stateAfter : MethodName := ⟨RX3, "stateAfter", "(II)I"⟩
abbrev cX3_stateAfterLetter : ByteArray := prog_5_method_7_code
def yX3_stateAfterLetter : MethodName := ⟨RX3, "stateAfterLetter", "(I)I"⟩
def RX4 : String := "PhaseConverter"
def TX4 : u_T := fun k => match k with
  | 0 => ("PhaseConverter", "plant", "LPhaseConverter$Plant;", true)
  | 1 => ("PhaseConverter", "trial", "LPhaseConverter$Plant;", true)
  | 2 => ("PhaseConverter", "history", "LPhaseConverter$History;", true)
  | _ => ("PhaseConverter", "program", "LPhaseConverter$Program;", true)
def tyX4 : Nat → FieldType := fun k => match k with
  | 0 => .object "PhaseConverter$Plant"
  | 1 => .object "PhaseConverter$Plant"
  | 2 => .object "PhaseConverter$History"
  | _ => .object "PhaseConverter$Program"
abbrev wsX40 : List Cond := u_ws RX4 TX4 4
theorem nmX4 : ∀ a, a < 4 → ∀ b, b < 4 → a ≠ b → (TX4 a).2.1 ≠ (TX4 b).2.1 := by decide +kernel
theorem tyX4_ok : ∀ k, k < 4 → parseFieldDescriptor (TX4 k).2.2.1 = some (tyX4 k) := by decide +kernel
abbrev cX4_init : ByteArray := prog_1_method_1_code
def yX4_init : MethodName := ⟨RX4, "<init>", "()V"⟩
abbrev cX4_begin : ByteArray := prog_1_method_2_code
def yX4_begin : MethodName := ⟨RX4, "begin", "(I)I"⟩
abbrev cX4_set : ByteArray := prog_1_method_3_code
def yX4_set : MethodName := ⟨RX4, "set", "(II)I"⟩
abbrev cX4_setting : ByteArray := prog_1_method_4_code
def yX4_setting : MethodName := ⟨RX4, "setting", "(I)I"⟩
abbrev cX4_start : ByteArray := prog_1_method_5_code
def yX4_start : MethodName := ⟨RX4, "start", "()I"⟩
abbrev cX4_stop : ByteArray := prog_1_method_6_code
def yX4_stop : MethodName := ⟨RX4, "stop", "()I"⟩
abbrev cX4_run : ByteArray := prog_1_method_7_code
def yX4_run : MethodName := ⟨RX4, "run", "(I)I"⟩
abbrev cX4_append : ByteArray := prog_1_method_8_code
def yX4_append : MethodName := ⟨RX4, "append", "(I)I"⟩
abbrev cX4_clearBuffer : ByteArray := prog_1_method_9_code
def yX4_clearBuffer : MethodName := ⟨RX4, "clearBuffer", "()I"⟩
abbrev cX4_firstError : ByteArray := prog_1_method_10_code
def yX4_firstError : MethodName := ⟨RX4, "firstError", "()I"⟩
abbrev cX4_play : ByteArray := prog_1_method_11_code
def yX4_play : MethodName := ⟨RX4, "play", "()I"⟩
abbrev cX4_count : ByteArray := prog_1_method_12_code
def yX4_count : MethodName := ⟨RX4, "count", "(I)I"⟩
abbrev cX4_phase : ByteArray := prog_1_method_13_code
def yX4_phase : MethodName := ⟨RX4, "phase", "(II)I"⟩
abbrev cX4_record : ByteArray := prog_1_method_14_code
def yX4_record : MethodName := ⟨RX4, "record", "(II)I"⟩
abbrev cX4_ifLoaded : ByteArray := prog_1_method_15_code
def yX4_ifLoaded : MethodName := ⟨RX4, "ifLoaded", "(III)I"⟩
abbrev cX4_settles : ByteArray := prog_1_method_16_code
def yX4_settles : MethodName := ⟨RX4, "settles", "(I)I"⟩
abbrev cX4_greatestLoad : ByteArray := prog_1_method_17_code
def yX4_greatestLoad : MethodName := ⟨RX4, "greatestLoad", "(I)I"⟩
abbrev cX4_unbalance : ByteArray := prog_1_method_18_code
def yX4_unbalance : MethodName := ⟨RX4, "unbalance", "()I"⟩
abbrev cX4_meanVoltage : ByteArray := prog_1_method_19_code
def yX4_meanVoltage : MethodName := ⟨RX4, "meanVoltage", "()D"⟩
abbrev cX4_digest : ByteArray := prog_1_method_20_code
def yX4_digest : MethodName := ⟨RX4, "digest", "()J"⟩
abbrev cX4_isSetting : ByteArray := prog_1_method_21_code
def yX4_isSetting : MethodName := ⟨RX4, "isSetting", "(I)Z"⟩
abbrev cX4_fits : ByteArray := prog_1_method_22_code
def yX4_fits : MethodName := ⟨RX4, "fits", "(II)Z"⟩
abbrev cX4_isRunLength : ByteArray := prog_1_method_23_code
def yX4_isRunLength : MethodName := ⟨RX4, "isRunLength", "(I)Z"⟩
abbrev cX4_hasRoomFor : ByteArray := prog_1_method_24_code
def yX4_hasRoomFor : MethodName := ⟨RX4, "hasRoomFor", "(I)Z"⟩
abbrev cX4_isDigit : ByteArray := prog_1_method_25_code
def yX4_isDigit : MethodName := ⟨RX4, "isDigit", "(I)Z"⟩
abbrev cX4_clamp : ByteArray := prog_1_method_26_code
def yX4_clamp : MethodName := ⟨RX4, "clamp", "(III)I"⟩
abbrev cX4_quotient : ByteArray := prog_1_method_27_code
def yX4_quotient : MethodName := ⟨RX4, "quotient", "(II)I"⟩
abbrev cX4_passCycles : ByteArray := prog_1_method_28_code
def yX4_passCycles : MethodName := ⟨RX4, "passCycles", "(I)V"⟩
abbrev cX4_isPossible : ByteArray := prog_1_method_29_code
def yX4_isPossible : MethodName := ⟨RX4, "isPossible", "(II)Z"⟩
abbrev cX4_carryOut : ByteArray := prog_1_method_30_code
def yX4_carryOut : MethodName := ⟨RX4, "carryOut", "(II)V"⟩
abbrev cX4_settingOf : ByteArray := prog_1_method_31_code
def yX4_settingOf : MethodName := ⟨RX4, "settingOf", "(I)I"⟩
abbrev cX4_number : ByteArray := prog_1_method_32_code
def yX4_number : MethodName := ⟨RX4, "number", "(I)I"⟩
abbrev cX4_beginTrial : ByteArray := prog_1_method_33_code
def yX4_beginTrial : MethodName := ⟨RX4, "beginTrial", "()V"⟩
abbrev cX4_holdsLevel : ByteArray := prog_1_method_34_code
def yX4_holdsLevel : MethodName := ⟨RX4, "holdsLevel", "(II)Z"⟩
def RX5 : String := "PhaseConverterModel"
def TX5 : u_T := fun k => match k with
  | 0 => ("PhaseConverterModel", "thrown", "I", false)
  | 1 => ("PhaseConverterModel", "z", "[I", true)
  | 2 => ("PhaseConverterModel", "aside", "[I", true)
  | 3 => ("PhaseConverterModel", "length", "I", false)
  | 4 => ("PhaseConverterModel", "text", "[I", true)
  | 5 => ("PhaseConverterModel", "least", "I", false)
  | 6 => ("PhaseConverterModel", "most", "I", false)
  | 7 => ("PhaseConverterModel", "strongest", "I", false)
  | 8 => ("PhaseConverterModel", "step", "I", false)
  | 9 => ("PhaseConverterModel", "sign", "I", false)
  | 10 => ("PhaseConverterModel", "number", "I", false)
  | 11 => ("PhaseConverterModel", "digits", "I", false)
  | 12 => ("PhaseConverterModel", "items", "I", false)
  | 13 => ("PhaseConverterModel", "read", "[I", true)
  | _ => ("PhaseConverterModel", "h", "J", false)
def tyX5 : Nat → FieldType := fun k => match k with
  | 0 => .int
  | 1 => .array .int
  | 2 => .array .int
  | 3 => .int
  | 4 => .array .int
  | 5 => .int
  | 6 => .int
  | 7 => .int
  | 8 => .int
  | 9 => .int
  | 10 => .int
  | 11 => .int
  | 12 => .int
  | 13 => .array .int
  | _ => .long
abbrev wsX50 : List Cond := u_ws RX5 TX5 15
theorem nmX5 : ∀ a, a < 15 → ∀ b, b < 15 → a ≠ b → (TX5 a).2.1 ≠ (TX5 b).2.1 := by decide +kernel
theorem tyX5_ok : ∀ k, k < 15 → parseFieldDescriptor (TX5 k).2.2.1 = some (tyX5 k) := by decide +kernel
abbrev cX5_init : ByteArray := prog_7_method_1_code
def yX5_init : MethodName := ⟨RX5, "<init>", "()V"⟩
abbrev cX5_thrown : ByteArray := prog_7_method_2_code
def yX5_thrown : MethodName := ⟨RX5, "thrown", "()I"⟩
abbrev cX5_within : ByteArray := prog_7_method_3_code
def yX5_within : MethodName := ⟨RX5, "within", "(III)Z"⟩
abbrev cX5_clamped : ByteArray := prog_7_method_4_code
def yX5_clamped : MethodName := ⟨RX5, "clamped", "(III)I"⟩
abbrev cX5_first : ByteArray := prog_7_method_5_code
def yX5_first : MethodName := ⟨RX5, "first", "(I)I"⟩
abbrev cX5_lowest : ByteArray := prog_7_method_6_code
def yX5_lowest : MethodName := ⟨RX5, "lowest", "(I)I"⟩
abbrev cX5_highest : ByteArray := prog_7_method_7_code
def yX5_highest : MethodName := ⟨RX5, "highest", "(I)I"⟩
abbrev cX5_fresh : ByteArray := prog_7_method_8_code
def yX5_fresh : MethodName := ⟨RX5, "fresh", "(I)V"⟩
abbrev cX5_at : ByteArray := prog_7_method_9_code
def yX5_at : MethodName := ⟨RX5, "at", "(II)I"⟩
abbrev cX5_runs : ByteArray := prog_7_method_10_code
def yX5_runs : MethodName := ⟨RX5, "runs", "()Z"⟩
abbrev cX5_stopTo : ByteArray := prog_7_method_11_code
def yX5_stopTo : MethodName := ⟨RX5, "stopTo", "(I)V"⟩
abbrev cX5_sum : ByteArray := prog_7_method_12_code
def yX5_sum : MethodName := ⟨RX5, "sum", "(I)I"⟩
abbrev cX5_aim : ByteArray := prog_7_method_13_code
def yX5_aim : MethodName := ⟨RX5, "aim", "()V"⟩
abbrev cX5_regulate : ByteArray := prog_7_method_14_code
def yX5_regulate : MethodName := ⟨RX5, "regulate", "()V"⟩
abbrev cX5_changePhases : ByteArray := prog_7_method_15_code
def yX5_changePhases : MethodName := ⟨RX5, "changePhases", "(I)V"⟩
abbrev cX5_choosePhases : ByteArray := prog_7_method_16_code
def yX5_choosePhases : MethodName := ⟨RX5, "choosePhases", "()V"⟩
abbrev cX5_beginPulse : ByteArray := prog_7_method_17_code
def yX5_beginPulse : MethodName := ⟨RX5, "beginPulse", "(II)V"⟩
abbrev cX5_step : ByteArray := prog_7_method_18_code
def yX5_step : MethodName := ⟨RX5, "step", "(I)V"⟩
abbrev cX5_slot : ByteArray := prog_7_method_19_code
def yX5_slot : MethodName := ⟨RX5, "slot", "(II)V"⟩
abbrev cX5_record : ByteArray := prog_7_method_20_code
def yX5_record : MethodName := ⟨RX5, "record", "(I)V"⟩
abbrev cX5_layExtremes : ByteArray := prog_7_method_21_code
def yX5_layExtremes : MethodName := ⟨RX5, "layExtremes", "()V"⟩
abbrev cX5_cycle : ByteArray := prog_7_method_22_code
def yX5_cycle : MethodName := ⟨RX5, "cycle", "()V"⟩
abbrev cX5_begin : ByteArray := prog_7_method_23_code
def yX5_begin : MethodName := ⟨RX5, "begin", "(I)I"⟩
abbrev cX5_isSetting : ByteArray := prog_7_method_24_code
def yX5_isSetting : MethodName := ⟨RX5, "isSetting", "(I)Z"⟩
abbrev cX5_set : ByteArray := prog_7_method_25_code
def yX5_set : MethodName := ⟨RX5, "set", "(II)I"⟩
abbrev cX5_setting : ByteArray := prog_7_method_26_code
def yX5_setting : MethodName := ⟨RX5, "setting", "(I)I"⟩
abbrev cX5_start : ByteArray := prog_7_method_27_code
def yX5_start : MethodName := ⟨RX5, "start", "()I"⟩
abbrev cX5_stop : ByteArray := prog_7_method_28_code
def yX5_stop : MethodName := ⟨RX5, "stop", "()I"⟩
abbrev cX5_run : ByteArray := prog_7_method_29_code
def yX5_run : MethodName := ⟨RX5, "run", "(I)I"⟩
abbrev cX5_append : ByteArray := prog_7_method_30_code
def yX5_append : MethodName := ⟨RX5, "append", "(I)I"⟩
abbrev cX5_clearBuffer : ByteArray := prog_7_method_31_code
def yX5_clearBuffer : MethodName := ⟨RX5, "clearBuffer", "()I"⟩
abbrev cX5_takesSign : ByteArray := prog_7_method_32_code
def yX5_takesSign : MethodName := ⟨RX5, "takesSign", "(I)Z"⟩
abbrev cX5_takes : ByteArray := prog_7_method_33_code
def yX5_takes : MethodName := ⟨RX5, "takes", "(I)Z"⟩
abbrev cX5_endItem : ByteArray := prog_7_method_34_code
def yX5_endItem : MethodName := ⟨RX5, "endItem", "()V"⟩
abbrev cX5_readText : ByteArray := prog_7_method_35_code
def yX5_readText : MethodName := ⟨RX5, "readText", "()I"⟩
abbrev cX5_firstError : ByteArray := prog_7_method_36_code
def yX5_firstError : MethodName := ⟨RX5, "firstError", "()I"⟩
abbrev cX5_does : ByteArray := prog_7_method_37_code
def yX5_does : MethodName := ⟨RX5, "does", "(II)Z"⟩
abbrev cX5_play : ByteArray := prog_7_method_38_code
def yX5_play : MethodName := ⟨RX5, "play", "()I"⟩
abbrev cX5_place : ByteArray := prog_7_method_39_code
def yX5_place : MethodName := ⟨RX5, "place", "(I)I"⟩
abbrev cX5_count : ByteArray := prog_7_method_40_code
def yX5_count : MethodName := ⟨RX5, "count", "(I)I"⟩
abbrev cX5_phase : ByteArray := prog_7_method_41_code
def yX5_phase : MethodName := ⟨RX5, "phase", "(II)I"⟩
abbrev cX5_record_ : ByteArray := prog_7_method_42_code
def yX5_record_ : MethodName := ⟨RX5, "record", "(II)I"⟩
abbrev cX5_keep : ByteArray := prog_7_method_43_code
def yX5_keep : MethodName := ⟨RX5, "keep", "()V"⟩
abbrev cX5_takeBack : ByteArray := prog_7_method_44_code
def yX5_takeBack : MethodName := ⟨RX5, "takeBack", "()V"⟩
abbrev cX5_ifLoaded : ByteArray := prog_7_method_45_code
def yX5_ifLoaded : MethodName := ⟨RX5, "ifLoaded", "(III)I"⟩
abbrev cX5_settledAt : ByteArray := prog_7_method_46_code
def yX5_settledAt : MethodName := ⟨RX5, "settledAt", "(I)I"⟩
abbrev cX5_settles : ByteArray := prog_7_method_47_code
def yX5_settles : MethodName := ⟨RX5, "settles", "(I)I"⟩
abbrev cX5_holds : ByteArray := prog_7_method_48_code
def yX5_holds : MethodName := ⟨RX5, "holds", "(II)Z"⟩
abbrev cX5_greatestLoad : ByteArray := prog_7_method_49_code
def yX5_greatestLoad : MethodName := ⟨RX5, "greatestLoad", "(I)I"⟩
abbrev cX5_unlike : ByteArray := prog_7_method_50_code
def yX5_unlike : MethodName := ⟨RX5, "unlike", "()I"⟩
abbrev cX5_unbalance : ByteArray := prog_7_method_51_code
def yX5_unbalance : MethodName := ⟨RX5, "unbalance", "()I"⟩
abbrev cX5_meanVoltage : ByteArray := prog_7_method_52_code
def yX5_meanVoltage : MethodName := ⟨RX5, "meanVoltage", "()D"⟩
abbrev cX5_mix : ByteArray := prog_7_method_53_code
def yX5_mix : MethodName := ⟨RX5, "mix", "(J)V"⟩
abbrev cX5_digest : ByteArray := prog_7_method_54_code
def yX5_digest : MethodName := ⟨RX5, "digest", "()J"⟩
def RJx8e188 : String := "java/lang/Cloneable"
def TJx8e188 : u_T := fun k => match k with
  | _ => ("", "", "", false)
def tyJx8e188 : Nat → FieldType := fun k => match k with
  | _ => .int
abbrev wsJx8e1880 : List Cond := u_ws RJx8e188 TJx8e188 0
theorem nmJx8e188 : ∀ a, a < 0 → ∀ b, b < 0 → a ≠ b → (TJx8e188 a).2.1 ≠ (TJx8e188 b).2.1 := by decide +kernel
theorem tyJx8e188_ok : ∀ k, k < 0 → parseFieldDescriptor (TJx8e188 k).2.2.1 = some (tyJx8e188 k) := by decide +kernel
def RJ9 : String := "java/lang/Math"
def TJ9 : u_T := fun k => match k with
  | _ => ("", "", "", false)
def tyJ9 : Nat → FieldType := fun k => match k with
  | _ => .int
abbrev wsJ90 : List Cond := u_ws RJ9 TJ9 0
theorem nmJ9 : ∀ a, a < 0 → ∀ b, b < 0 → a ≠ b → (TJ9 a).2.1 ≠ (TJ9 b).2.1 := by decide +kernel
theorem tyJ9_ok : ∀ k, k < 0 → parseFieldDescriptor (TJ9 k).2.2.1 = some (tyJ9 k) := by decide +kernel
abbrev cJ9_abs_0f7a4 : ByteArray := prog_13_method_59_code
def yJ9_abs_0f7a4 : MethodName := ⟨RJ9, "abs", "(I)I"⟩
abbrev cJ9_max_7cf53 : ByteArray := prog_13_method_65_code
def yJ9_max_7cf53 : MethodName := ⟨RJ9, "max", "(II)I"⟩
abbrev cJ9_min_7cf53 : ByteArray := prog_13_method_69_code
def yJ9_min_7cf53 : MethodName := ⟨RJ9, "min", "(II)I"⟩
def RJ0 : String := "java/lang/String"
def TJ0 : u_T := fun k => match k with
  | _ => ("", "", "", false)
def tyJ0 : Nat → FieldType := fun k => match k with
  | _ => .int
abbrev wsJ00 : List Cond := u_ws RJ0 TJ0 0
theorem nmJ0 : ∀ a, a < 0 → ∀ b, b < 0 → a ≠ b → (TJ0 a).2.1 ≠ (TJ0 b).2.1 := by decide +kernel
theorem tyJ0_ok : ∀ k, k < 0 → parseFieldDescriptor (TJ0 k).2.2.1 = some (tyJ0 k) := by decide +kernel
def RJ10 : String := "java/lang/System"
def TJ10 : u_T := fun k => match k with
  | _ => ("", "", "", false)
def tyJ10 : Nat → FieldType := fun k => match k with
  | _ => .int
abbrev wsJ100 : List Cond := u_ws RJ10 TJ10 0
theorem nmJ10 : ∀ a, a < 0 → ∀ b, b < 0 → a ≠ b → (TJ10 a).2.1 ≠ (TJ10 b).2.1 := by decide +kernel
theorem tyJ10_ok : ∀ k, k < 0 → parseFieldDescriptor (TJ10 k).2.2.1 = some (tyJ10 k) := by decide +kernel
def RL : String := "PhaseConverterLaw"
abbrev cL_begin : ByteArray := method_3_code
def yL_begin : MethodName := ⟨RL, "begin", "(LPhaseConverter;I[J)I"⟩
abbrev cL_set : ByteArray := method_4_code
def yL_set : MethodName := ⟨RL, "set", "(LPhaseConverter;II[J)I"⟩
abbrev cL_setting : ByteArray := method_5_code
def yL_setting : MethodName := ⟨RL, "setting", "(LPhaseConverter;I[J)I"⟩
abbrev cL_start : ByteArray := method_6_code
def yL_start : MethodName := ⟨RL, "start", "(LPhaseConverter;[J)I"⟩
abbrev cL_run : ByteArray := method_7_code
def yL_run : MethodName := ⟨RL, "run", "(LPhaseConverter;I[J)I"⟩
abbrev cL_append : ByteArray := method_8_code
def yL_append : MethodName := ⟨RL, "append", "(LPhaseConverter;I[J)I"⟩
abbrev cL_play : ByteArray := method_9_code
def yL_play : MethodName := ⟨RL, "play", "(LPhaseConverter;[J)I"⟩
abbrev cL_count : ByteArray := method_10_code
def yL_count : MethodName := ⟨RL, "count", "(LPhaseConverter;I[J)I"⟩
abbrev cL_phase : ByteArray := method_11_code
def yL_phase : MethodName := ⟨RL, "phase", "(LPhaseConverter;II[J)I"⟩
abbrev cL_record : ByteArray := method_12_code
def yL_record : MethodName := ⟨RL, "record", "(LPhaseConverter;II[J)I"⟩
abbrev cL_ifLoaded : ByteArray := method_13_code
def yL_ifLoaded : MethodName := ⟨RL, "ifLoaded", "(LPhaseConverter;III[J)I"⟩
abbrev cL_settles : ByteArray := method_14_code
def yL_settles : MethodName := ⟨RL, "settles", "(LPhaseConverter;I[J)I"⟩
abbrev cL_greatestLoad : ByteArray := method_15_code
def yL_greatestLoad : MethodName := ⟨RL, "greatestLoad", "(LPhaseConverter;I[J)I"⟩
abbrev cL_law : ByteArray := code
def yL_law : MethodName := ⟨RL, "law", "([I)Z"⟩
def wsX0_init : List Cond := .code yX0_init cX0_init 1 none :: ([.methodLink RX0 3 objectInit, .instanceMethod objectInit, .code objectInit ⟨#[0xb1]⟩ 1 none, .arrayClass .int, .fieldLink RX0 9 "PhaseConverter$History" "parts" "[I"] ++ wsX00)
def wsX0_forget : List Cond := .code yX0_forget cX0_forget 1 none :: ([.fieldLink RX0 15 "PhaseConverter$History" "size" "I", .fieldLink RX0 19 "PhaseConverter$History" "newest" "I"] ++ wsX00)
def wsX2_ripple : List Cond := .code yX2_ripple cX2_ripple 1 (some .int) :: ([.fieldLink RX2 76 "PhaseConverter$Plant" "greatestVoltage" "I", .fieldLink RX2 73 "PhaseConverter$Plant" "leastVoltage" "I"] ++ wsX20)
def wsX0_keep : List Cond := .code yX0_keep cX0_keep 4 none :: ([.fieldLink RX0 19 "PhaseConverter$History" "newest" "I", .fieldLink RX0 15 "PhaseConverter$History" "size" "I", .methodLink RX0 22 Lib.Math.min.name, .static Lib.Math.min.name, .initialized "java/lang/Math", .code Lib.Math.min.name Lib.Math.min.code 2 (some .int), .fieldLink RX0 9 "PhaseConverter$History" "parts" "[I", .fieldLink RX0 28 "PhaseConverter$Plant" "voltage" "I", .fieldLink RX0 33 "PhaseConverter$Plant" "meanCurrent" "I", .fieldLink RX0 40 "PhaseConverter$Plant" "active" "I", .fieldLink RX0 43 "PhaseConverter$Plant" "mode" "I", .methodLink RX0 36 yX2_ripple, .instanceMethod yX2_ripple, .selects RX2 yX2_ripple yX2_ripple, .initialized RX2, .code yX2_ripple cX2_ripple 1 (some .int), .fieldLink RX2 76 "PhaseConverter$Plant" "greatestVoltage" "I", .fieldLink RX2 73 "PhaseConverter$Plant" "leastVoltage" "I"] ++ wsX00 ++ wsX20)
def wsX0_part : List Cond := .code yX0_part cX0_part 5 (some .int) :: ([.fieldLink RX0 19 "PhaseConverter$History" "newest" "I", .fieldLink RX0 9 "PhaseConverter$History" "parts" "[I"] ++ wsX00)
def wsX1_init : List Cond := .code yX1_init cX1_init 1 none :: ([.methodLink RX1 3 objectInit, .instanceMethod objectInit, .code objectInit ⟨#[0xb1]⟩ 1 none])
def wsX1_reset : List Cond := .code yX1_reset cX1_reset 1 none :: ([.fieldLink RX1 9 "PhaseConverter$Phase" "current" "I", .fieldLink RX1 15 "PhaseConverter$Phase" "onTime" "I", .fieldLink RX1 18 "PhaseConverter$Phase" "rest" "I", .fieldLink RX1 21 "PhaseConverter$Phase" "onSlots" "I", .fieldLink RX1 24 "PhaseConverter$Phase" "limitEvents" "I", .fieldLink RX1 27 "PhaseConverter$Phase" "skipped" "I", .fieldLink RX1 30 "PhaseConverter$Phase" "pulses" "I"] ++ wsX10)
def wsX1_copyFrom : List Cond := .code yX1_copyFrom cX1_copyFrom 2 none :: ([.fieldLink RX1 9 "PhaseConverter$Phase" "current" "I", .fieldLink RX1 15 "PhaseConverter$Phase" "onTime" "I", .fieldLink RX1 18 "PhaseConverter$Phase" "rest" "I", .fieldLink RX1 21 "PhaseConverter$Phase" "onSlots" "I", .fieldLink RX1 24 "PhaseConverter$Phase" "limitEvents" "I", .fieldLink RX1 27 "PhaseConverter$Phase" "skipped" "I", .fieldLink RX1 30 "PhaseConverter$Phase" "pulses" "I"] ++ wsX10)
def wsX1_skipPulse : List Cond := .code yX1_skipPulse cX1_skipPulse 1 none :: ([.fieldLink RX1 15 "PhaseConverter$Phase" "onTime" "I", .fieldLink RX1 27 "PhaseConverter$Phase" "skipped" "I"] ++ wsX10)
def wsX1_beginPulse : List Cond := .code yX1_beginPulse cX1_beginPulse 2 none :: ([.fieldLink RX1 18 "PhaseConverter$Phase" "rest" "I", .fieldLink RX1 15 "PhaseConverter$Phase" "onTime" "I", .fieldLink RX1 30 "PhaseConverter$Phase" "pulses" "I"] ++ wsX10)
def wsX1_passSlot : List Cond := .code yX1_passSlot cX1_passSlot 4 none :: ([.fieldLink RX1 15 "PhaseConverter$Phase" "onTime" "I", .fieldLink RX1 9 "PhaseConverter$Phase" "current" "I", .fieldLink RX1 24 "PhaseConverter$Phase" "limitEvents" "I", .fieldLink RX1 21 "PhaseConverter$Phase" "onSlots" "I"] ++ wsX10)
def wsX1_property : List Cond := .code yX1_property cX1_property 2 (some .int) :: ([.fieldLink RX1 9 "PhaseConverter$Phase" "current" "I", .fieldLink RX1 15 "PhaseConverter$Phase" "onTime" "I", .fieldLink RX1 18 "PhaseConverter$Phase" "rest" "I", .fieldLink RX1 21 "PhaseConverter$Phase" "onSlots" "I", .fieldLink RX1 24 "PhaseConverter$Phase" "limitEvents" "I", .fieldLink RX1 27 "PhaseConverter$Phase" "skipped" "I", .fieldLink RX1 30 "PhaseConverter$Phase" "pulses" "I"] ++ wsX10)
def wsX2_init : List Cond := .code yX2_init cX2_init 3 none :: ([.methodLink RX2 3 objectInit, .instanceMethod objectInit, .code objectInit ⟨#[0xb1]⟩ 1 none, .methodLink RX2 13 ⟨"[I", "clone", "()Ljava/lang/Object;"⟩, .sameMethod "[I" "java/lang/Object" "clone" "()Ljava/lang/Object;", .native ⟨"java/lang/Object", "clone", "()Ljava/lang/Object;"⟩, .instanceMethod ⟨"java/lang/Object", "clone", "()Ljava/lang/Object;"⟩, .selects "[I" ⟨"[I", "clone", "()Ljava/lang/Object;"⟩ ⟨"java/lang/Object", "clone", "()Ljava/lang/Object;"⟩, .classLink RX2 14 "[I", .fieldLink RX2 18 "PhaseConverter$Plant" "settings" "[I", .classLink RX2 23 RX1, .fieldLink RX2 25 "PhaseConverter$Plant" "phases" "[LPhaseConverter$Phase;", .instantiable RX1 7, .initialized RX1, .fieldLink RX2 30 "PhaseConverter$Plant" "phaseCount" "I", .fieldLink RX2 34 "PhaseConverter$Plant" "active" "I", .instanceMethod yX1_init, .code yX1_init cX1_init 1 none, .methodLink RX1 3 objectInit] ++ wsX20 ++ wsX10)
def wsX2_reset_r1 : List Cond := [Cond.fieldLink RX2 18 "PhaseConverter$Plant" "settings" "[I", Cond.methodLink RX2 37 arraycopyName, Cond.native arraycopyName, Cond.static arraycopyName, Cond.initialized "java/lang/System", Cond.fieldLink RX2 25 "PhaseConverter$Plant" "phases" "[LPhaseConverter$Phase;", Cond.fieldLink RX2 30 "PhaseConverter$Plant" "phaseCount" "I", Cond.fieldLink RX2 34 "PhaseConverter$Plant" "active" "I", Cond.fieldLink RX2 46 "PhaseConverter$Plant" "mode" "I", Cond.fieldLink RX2 49 "PhaseConverter$Plant" "voltage" "I", Cond.fieldLink RX2 52 "PhaseConverter$Plant" "presentTarget" "I", Cond.fieldLink RX2 55 "PhaseConverter$Plant" "integral" "I", Cond.fieldLink RX2 58 "PhaseConverter$Plant" "duty" "I", Cond.fieldLink RX2 61 "PhaseConverter$Plant" "addingCount" "I", Cond.fieldLink RX2 64 "PhaseConverter$Plant" "sheddingCount" "I", Cond.fieldLink RX2 67 "PhaseConverter$Plant" "cycles" "I", Cond.fieldLink RX2 70 "PhaseConverter$Plant" "meanCurrent" "I", Cond.fieldLink RX2 73 "PhaseConverter$Plant" "leastVoltage" "I", Cond.fieldLink RX2 76 "PhaseConverter$Plant" "greatestVoltage" "I", Cond.fieldLink RX2 79 "PhaseConverter$Plant" "peakCurrent" "I", Cond.fieldLink RX2 82 "PhaseConverter$Plant" "changes" "I", Cond.methodLink RX2 43 yX1_reset, Cond.instanceMethod yX1_reset, Cond.selects RX1 yX1_reset yX1_reset]
def wsX2_reset_r2 : List Cond := [Cond.initialized RX1, Cond.code yX1_reset cX1_reset 1 none, Cond.fieldLink RX1 9 "PhaseConverter$Phase" "current" "I", Cond.fieldLink RX1 15 "PhaseConverter$Phase" "onTime" "I", Cond.fieldLink RX1 18 "PhaseConverter$Phase" "rest" "I", Cond.fieldLink RX1 21 "PhaseConverter$Phase" "onSlots" "I", Cond.fieldLink RX1 24 "PhaseConverter$Phase" "limitEvents" "I", Cond.fieldLink RX1 27 "PhaseConverter$Phase" "skipped" "I", Cond.fieldLink RX1 30 "PhaseConverter$Phase" "pulses" "I"]
def wsX2_reset : List Cond := .code yX2_reset cX2_reset 3 none :: ((wsX2_reset_r1 ++ wsX2_reset_r2) ++ wsX20 ++ wsX10)
def wsX2_copyFrom_r1 : List Cond := [Cond.fieldLink RX2 18 "PhaseConverter$Plant" "settings" "[I", Cond.methodLink RX2 37 arraycopyName, Cond.native arraycopyName, Cond.static arraycopyName, Cond.initialized "java/lang/System", Cond.fieldLink RX2 25 "PhaseConverter$Plant" "phases" "[LPhaseConverter$Phase;", Cond.fieldLink RX2 30 "PhaseConverter$Plant" "phaseCount" "I", Cond.fieldLink RX2 34 "PhaseConverter$Plant" "active" "I", Cond.fieldLink RX2 46 "PhaseConverter$Plant" "mode" "I", Cond.fieldLink RX2 49 "PhaseConverter$Plant" "voltage" "I", Cond.fieldLink RX2 52 "PhaseConverter$Plant" "presentTarget" "I", Cond.fieldLink RX2 55 "PhaseConverter$Plant" "integral" "I", Cond.fieldLink RX2 58 "PhaseConverter$Plant" "duty" "I", Cond.fieldLink RX2 61 "PhaseConverter$Plant" "addingCount" "I", Cond.fieldLink RX2 64 "PhaseConverter$Plant" "sheddingCount" "I", Cond.fieldLink RX2 67 "PhaseConverter$Plant" "cycles" "I", Cond.fieldLink RX2 70 "PhaseConverter$Plant" "meanCurrent" "I", Cond.fieldLink RX2 73 "PhaseConverter$Plant" "leastVoltage" "I", Cond.fieldLink RX2 76 "PhaseConverter$Plant" "greatestVoltage" "I", Cond.fieldLink RX2 79 "PhaseConverter$Plant" "peakCurrent" "I", Cond.fieldLink RX2 82 "PhaseConverter$Plant" "changes" "I", Cond.methodLink RX2 85 yX1_copyFrom, Cond.instanceMethod yX1_copyFrom, Cond.selects RX1 yX1_copyFrom yX1_copyFrom]
def wsX2_copyFrom_r2 : List Cond := [Cond.initialized RX1, Cond.code yX1_copyFrom cX1_copyFrom 2 none, Cond.fieldLink RX1 9 "PhaseConverter$Phase" "current" "I", Cond.fieldLink RX1 15 "PhaseConverter$Phase" "onTime" "I", Cond.fieldLink RX1 18 "PhaseConverter$Phase" "rest" "I", Cond.fieldLink RX1 21 "PhaseConverter$Phase" "onSlots" "I", Cond.fieldLink RX1 24 "PhaseConverter$Phase" "limitEvents" "I", Cond.fieldLink RX1 27 "PhaseConverter$Phase" "skipped" "I", Cond.fieldLink RX1 30 "PhaseConverter$Phase" "pulses" "I"]
def wsX2_copyFrom : List Cond := .code yX2_copyFrom cX2_copyFrom 3 none :: ((wsX2_copyFrom_r1 ++ wsX2_copyFrom_r2) ++ wsX20 ++ wsX10)
def wsX2_runs : List Cond := .code yX2_runs cX2_runs 1 (some .boolean) :: ([.fieldLink RX2 46 "PhaseConverter$Plant" "mode" "I"] ++ wsX20)
def wsX2_softStart : List Cond := .code yX2_softStart cX2_softStart 2 none :: ([.fieldLink RX2 46 "PhaseConverter$Plant" "mode" "I", .fieldLink RX2 49 "PhaseConverter$Plant" "voltage" "I", .fieldLink RX2 52 "PhaseConverter$Plant" "presentTarget" "I", .fieldLink RX2 55 "PhaseConverter$Plant" "integral" "I", .fieldLink RX2 61 "PhaseConverter$Plant" "addingCount" "I", .fieldLink RX2 64 "PhaseConverter$Plant" "sheddingCount" "I", .fieldLink RX2 30 "PhaseConverter$Plant" "phaseCount" "I", .fieldLink RX2 34 "PhaseConverter$Plant" "active" "I", .fieldLink RX2 25 "PhaseConverter$Plant" "phases" "[LPhaseConverter$Phase;", .fieldLink RX2 89 "PhaseConverter$Phase" "rest" "I"] ++ wsX20 ++ wsX10)
def wsX2_halt : List Cond := .code yX2_halt cX2_halt 3 none :: ([.fieldLink RX2 46 "PhaseConverter$Plant" "mode" "I", .fieldLink RX2 25 "PhaseConverter$Plant" "phases" "[LPhaseConverter$Phase;", .fieldLink RX2 92 "PhaseConverter$Phase" "onTime" "I"] ++ wsX20 ++ wsX10)
def wsX2_moveTarget : List Cond := .code yX2_moveTarget cX2_moveTarget 2 none :: ([.fieldLink RX2 18 "PhaseConverter$Plant" "settings" "[I", .fieldLink RX2 46 "PhaseConverter$Plant" "mode" "I", .fieldLink RX2 52 "PhaseConverter$Plant" "presentTarget" "I"] ++ wsX20)
def wsX4_clamp : List Cond := .code yX4_clamp cX4_clamp 3 (some .int) :: ([])
def wsX4_quotient : List Cond := .code yX4_quotient cX4_quotient 2 (some .int) :: ([])
def wsX2_regulate : List Cond := .code yX2_regulate cX2_regulate 5 none :: ([.fieldLink RX2 52 "PhaseConverter$Plant" "presentTarget" "I", .fieldLink RX2 49 "PhaseConverter$Plant" "voltage" "I", .fieldLink RX2 55 "PhaseConverter$Plant" "integral" "I", .constant RX2 131 (-100000), .constant RX2 132 (100000), .fieldLink RX2 18 "PhaseConverter$Plant" "settings" "[I", .fieldLink RX2 58 "PhaseConverter$Plant" "duty" "I", .static yX4_clamp, .initialized RX4, .code yX4_clamp cX4_clamp 3 (some .int), .static yX4_quotient, .code yX4_quotient cX4_quotient 2 (some .int)] ++ wsX20)
def wsX2_changeActive : List Cond := .code yX2_changeActive cX2_changeActive 2 none :: ([.fieldLink RX2 34 "PhaseConverter$Plant" "active" "I", .fieldLink RX2 61 "PhaseConverter$Plant" "addingCount" "I", .fieldLink RX2 64 "PhaseConverter$Plant" "sheddingCount" "I", .fieldLink RX2 82 "PhaseConverter$Plant" "changes" "I"] ++ wsX20)
def wsX2_adaptPhases : List Cond := .code yX2_adaptPhases cX2_adaptPhases 3 none :: ([.fieldLink RX2 34 "PhaseConverter$Plant" "active" "I", .fieldLink RX2 30 "PhaseConverter$Plant" "phaseCount" "I", .fieldLink RX2 70 "PhaseConverter$Plant" "meanCurrent" "I", .fieldLink RX2 18 "PhaseConverter$Plant" "settings" "[I", .fieldLink RX2 61 "PhaseConverter$Plant" "addingCount" "I", .fieldLink RX2 64 "PhaseConverter$Plant" "sheddingCount" "I", .fieldLink RX2 25 "PhaseConverter$Plant" "phases" "[LPhaseConverter$Phase;", .fieldLink RX2 92 "PhaseConverter$Phase" "onTime" "I", .methodLink RX2 140 yX2_changeActive, .instanceMethod yX2_changeActive, .selects RX2 yX2_changeActive yX2_changeActive, .initialized RX2, .code yX2_changeActive cX2_changeActive 2 none, .fieldLink RX2 82 "PhaseConverter$Plant" "changes" "I"] ++ wsX20 ++ wsX10)
def wsX2_activeCurrents : List Cond := .code yX2_activeCurrents cX2_activeCurrents 3 (some .int) :: ([.fieldLink RX2 34 "PhaseConverter$Plant" "active" "I", .fieldLink RX2 25 "PhaseConverter$Plant" "phases" "[LPhaseConverter$Phase;", .fieldLink RX2 149 "PhaseConverter$Phase" "current" "I"] ++ wsX20 ++ wsX10)
def wsX2_beginPulse_r1 : List Cond := [Cond.fieldLink RX2 46 "PhaseConverter$Plant" "mode" "I", Cond.fieldLink RX2 70 "PhaseConverter$Plant" "meanCurrent" "I", Cond.fieldLink RX2 18 "PhaseConverter$Plant" "settings" "[I", Cond.fieldLink RX2 49 "PhaseConverter$Plant" "voltage" "I", Cond.fieldLink RX2 52 "PhaseConverter$Plant" "presentTarget" "I", Cond.fieldLink RX2 149 "PhaseConverter$Phase" "current" "I", Cond.fieldLink RX2 34 "PhaseConverter$Plant" "active" "I", Cond.fieldLink RX2 58 "PhaseConverter$Plant" "duty" "I", Cond.methodLink RX2 146 yX1_skipPulse, Cond.instanceMethod yX1_skipPulse, Cond.selects RX1 yX1_skipPulse yX1_skipPulse, Cond.initialized RX1, Cond.code yX1_skipPulse cX1_skipPulse 1 none, Cond.fieldLink RX1 15 "PhaseConverter$Phase" "onTime" "I", Cond.fieldLink RX1 27 "PhaseConverter$Phase" "skipped" "I", Cond.methodLink RX2 152 yX2_activeCurrents, Cond.instanceMethod yX2_activeCurrents, Cond.selects RX2 yX2_activeCurrents yX2_activeCurrents, Cond.initialized RX2, Cond.code yX2_activeCurrents cX2_activeCurrents 3 (some .int), Cond.fieldLink RX2 25 "PhaseConverter$Plant" "phases" "[LPhaseConverter$Phase;", Cond.static yX4_quotient, Cond.initialized RX4, Cond.code yX4_quotient cX4_quotient 2 (some .int)]
def wsX2_beginPulse_r2 : List Cond := [Cond.static yX4_clamp, Cond.code yX4_clamp cX4_clamp 3 (some .int), Cond.methodLink RX2 155 yX1_beginPulse, Cond.instanceMethod yX1_beginPulse, Cond.selects RX1 yX1_beginPulse yX1_beginPulse, Cond.code yX1_beginPulse cX1_beginPulse 2 none, Cond.fieldLink RX1 18 "PhaseConverter$Phase" "rest" "I", Cond.fieldLink RX1 30 "PhaseConverter$Phase" "pulses" "I"]
def wsX2_beginPulse : List Cond := .code yX2_beginPulse cX2_beginPulse 5 none :: ((wsX2_beginPulse_r1 ++ wsX2_beginPulse_r2) ++ wsX20 ++ wsX10)
def wsX2_beginPulses_r1 : List Cond := [Cond.fieldLink RX2 34 "PhaseConverter$Plant" "active" "I", Cond.fieldLink RX2 25 "PhaseConverter$Plant" "phases" "[LPhaseConverter$Phase;", Cond.static yX4_quotient, Cond.initialized RX4, Cond.code yX4_quotient cX4_quotient 2 (some .int), Cond.methodLink RX2 143 yX2_beginPulse, Cond.instanceMethod yX2_beginPulse, Cond.selects RX2 yX2_beginPulse yX2_beginPulse, Cond.initialized RX2, Cond.code yX2_beginPulse cX2_beginPulse 5 none, Cond.fieldLink RX2 46 "PhaseConverter$Plant" "mode" "I", Cond.fieldLink RX2 70 "PhaseConverter$Plant" "meanCurrent" "I", Cond.fieldLink RX2 18 "PhaseConverter$Plant" "settings" "[I", Cond.fieldLink RX2 49 "PhaseConverter$Plant" "voltage" "I", Cond.fieldLink RX2 52 "PhaseConverter$Plant" "presentTarget" "I", Cond.fieldLink RX2 149 "PhaseConverter$Phase" "current" "I", Cond.fieldLink RX2 58 "PhaseConverter$Plant" "duty" "I", Cond.methodLink RX2 146 yX1_skipPulse, Cond.instanceMethod yX1_skipPulse, Cond.selects RX1 yX1_skipPulse yX1_skipPulse, Cond.initialized RX1, Cond.code yX1_skipPulse cX1_skipPulse 1 none, Cond.fieldLink RX1 15 "PhaseConverter$Phase" "onTime" "I", Cond.fieldLink RX1 27 "PhaseConverter$Phase" "skipped" "I"]
def wsX2_beginPulses_r2 : List Cond := [Cond.methodLink RX2 152 yX2_activeCurrents, Cond.instanceMethod yX2_activeCurrents, Cond.selects RX2 yX2_activeCurrents yX2_activeCurrents, Cond.code yX2_activeCurrents cX2_activeCurrents 3 (some .int), Cond.static yX4_clamp, Cond.code yX4_clamp cX4_clamp 3 (some .int), Cond.methodLink RX2 155 yX1_beginPulse, Cond.instanceMethod yX1_beginPulse, Cond.selects RX1 yX1_beginPulse yX1_beginPulse, Cond.code yX1_beginPulse cX1_beginPulse 2 none, Cond.fieldLink RX1 18 "PhaseConverter$Phase" "rest" "I", Cond.fieldLink RX1 30 "PhaseConverter$Phase" "pulses" "I"]
def wsX2_beginPulses : List Cond := .code yX2_beginPulses cX2_beginPulses 3 none :: ((wsX2_beginPulses_r1 ++ wsX2_beginPulses_r2) ++ wsX20 ++ wsX10)
def wsX2_moveCurrents : List Cond := .code yX2_moveCurrents cX2_moveCurrents 7 (some .int) :: ([.fieldLink RX2 18 "PhaseConverter$Plant" "settings" "[I", .fieldLink RX2 49 "PhaseConverter$Plant" "voltage" "I", .fieldLink RX2 30 "PhaseConverter$Plant" "phaseCount" "I", .fieldLink RX2 25 "PhaseConverter$Plant" "phases" "[LPhaseConverter$Phase;", .fieldLink RX2 149 "PhaseConverter$Phase" "current" "I", .fieldLink RX2 79 "PhaseConverter$Plant" "peakCurrent" "I", .methodLink RX2 128 Lib.Math.max.name, .static Lib.Math.max.name, .initialized "java/lang/Math", .code Lib.Math.max.name Lib.Math.max.code 2 (some .int), .static yX4_quotient, .initialized RX4, .code yX4_quotient cX4_quotient 2 (some .int), .methodLink RX2 157 yX1_passSlot, .instanceMethod yX1_passSlot, .selects RX1 yX1_passSlot yX1_passSlot, .initialized RX1, .code yX1_passSlot cX1_passSlot 4 none, .fieldLink RX1 15 "PhaseConverter$Phase" "onTime" "I", .fieldLink RX1 9 "PhaseConverter$Phase" "current" "I", .fieldLink RX1 24 "PhaseConverter$Phase" "limitEvents" "I", .fieldLink RX1 21 "PhaseConverter$Phase" "onSlots" "I"] ++ wsX20 ++ wsX10)
def wsX2_moveVoltage : List Cond := .code yX2_moveVoltage cX2_moveVoltage 3 none :: ([.fieldLink RX2 18 "PhaseConverter$Plant" "settings" "[I", .fieldLink RX2 49 "PhaseConverter$Plant" "voltage" "I", .constant RX2 161 (40000), .static yX4_quotient, .initialized RX4, .code yX4_quotient cX4_quotient 2 (some .int), .static yX4_clamp, .code yX4_clamp cX4_clamp 3 (some .int), .methodLink RX2 95 yX2_runs, .instanceMethod yX2_runs, .selects RX2 yX2_runs yX2_runs, .initialized RX2, .code yX2_runs cX2_runs 1 (some .boolean), .fieldLink RX2 46 "PhaseConverter$Plant" "mode" "I", .methodLink RX2 99 yX2_halt, .instanceMethod yX2_halt, .selects RX2 yX2_halt yX2_halt, .code yX2_halt cX2_halt 3 none, .fieldLink RX2 25 "PhaseConverter$Plant" "phases" "[LPhaseConverter$Phase;", .fieldLink RX2 92 "PhaseConverter$Phase" "onTime" "I"] ++ wsX20 ++ wsX10)
def wsX2_passCycle_r1 : List Cond := [Cond.fieldLink RX2 18 "PhaseConverter$Plant" "settings" "[I", Cond.fieldLink RX2 49 "PhaseConverter$Plant" "voltage" "I", Cond.fieldLink RX2 73 "PhaseConverter$Plant" "leastVoltage" "I", Cond.methodLink RX2 122 Lib.Math.min.name, Cond.static Lib.Math.min.name, Cond.initialized "java/lang/Math", Cond.code Lib.Math.min.name Lib.Math.min.code 2 (some .int), Cond.fieldLink RX2 76 "PhaseConverter$Plant" "greatestVoltage" "I", Cond.methodLink RX2 128 Lib.Math.max.name, Cond.static Lib.Math.max.name, Cond.code Lib.Math.max.name Lib.Math.max.code 2 (some .int), Cond.fieldLink RX2 70 "PhaseConverter$Plant" "meanCurrent" "I", Cond.fieldLink RX2 67 "PhaseConverter$Plant" "cycles" "I", Cond.methodLink RX2 95 yX2_runs, Cond.instanceMethod yX2_runs, Cond.selects RX2 yX2_runs yX2_runs, Cond.initialized RX2, Cond.code yX2_runs cX2_runs 1 (some .boolean), Cond.fieldLink RX2 46 "PhaseConverter$Plant" "mode" "I", Cond.methodLink RX2 99 yX2_halt, Cond.instanceMethod yX2_halt, Cond.selects RX2 yX2_halt yX2_halt, Cond.code yX2_halt cX2_halt 3 none, Cond.fieldLink RX2 25 "PhaseConverter$Plant" "phases" "[LPhaseConverter$Phase;"]
def wsX2_passCycle_r2 : List Cond := [Cond.fieldLink RX2 92 "PhaseConverter$Phase" "onTime" "I", Cond.methodLink RX2 103 yX2_moveTarget, Cond.instanceMethod yX2_moveTarget, Cond.selects RX2 yX2_moveTarget yX2_moveTarget, Cond.code yX2_moveTarget cX2_moveTarget 2 none, Cond.fieldLink RX2 52 "PhaseConverter$Plant" "presentTarget" "I", Cond.methodLink RX2 106 yX2_regulate, Cond.instanceMethod yX2_regulate, Cond.selects RX2 yX2_regulate yX2_regulate, Cond.code yX2_regulate cX2_regulate 5 none, Cond.fieldLink RX2 55 "PhaseConverter$Plant" "integral" "I", Cond.constant RX2 131 (-100000), Cond.constant RX2 132 (100000), Cond.fieldLink RX2 58 "PhaseConverter$Plant" "duty" "I", Cond.static yX4_clamp, Cond.initialized RX4, Cond.code yX4_clamp cX4_clamp 3 (some .int), Cond.static yX4_quotient, Cond.code yX4_quotient cX4_quotient 2 (some .int), Cond.methodLink RX2 109 yX2_adaptPhases, Cond.instanceMethod yX2_adaptPhases, Cond.selects RX2 yX2_adaptPhases yX2_adaptPhases, Cond.code yX2_adaptPhases cX2_adaptPhases 3 none, Cond.fieldLink RX2 34 "PhaseConverter$Plant" "active" "I"]
def wsX2_passCycle_r3 : List Cond := [Cond.fieldLink RX2 30 "PhaseConverter$Plant" "phaseCount" "I", Cond.fieldLink RX2 61 "PhaseConverter$Plant" "addingCount" "I", Cond.fieldLink RX2 64 "PhaseConverter$Plant" "sheddingCount" "I", Cond.methodLink RX2 140 yX2_changeActive, Cond.instanceMethod yX2_changeActive, Cond.selects RX2 yX2_changeActive yX2_changeActive, Cond.code yX2_changeActive cX2_changeActive 2 none, Cond.fieldLink RX2 82 "PhaseConverter$Plant" "changes" "I", Cond.methodLink RX2 112 yX2_beginPulses, Cond.instanceMethod yX2_beginPulses, Cond.selects RX2 yX2_beginPulses yX2_beginPulses, Cond.code yX2_beginPulses cX2_beginPulses 3 none, Cond.methodLink RX2 143 yX2_beginPulse, Cond.instanceMethod yX2_beginPulse, Cond.selects RX2 yX2_beginPulse yX2_beginPulse, Cond.code yX2_beginPulse cX2_beginPulse 5 none, Cond.fieldLink RX2 149 "PhaseConverter$Phase" "current" "I", Cond.methodLink RX2 146 yX1_skipPulse, Cond.instanceMethod yX1_skipPulse, Cond.selects RX1 yX1_skipPulse yX1_skipPulse, Cond.initialized RX1, Cond.code yX1_skipPulse cX1_skipPulse 1 none, Cond.fieldLink RX1 15 "PhaseConverter$Phase" "onTime" "I", Cond.fieldLink RX1 27 "PhaseConverter$Phase" "skipped" "I"]
def wsX2_passCycle_r4 : List Cond := [Cond.methodLink RX2 152 yX2_activeCurrents, Cond.instanceMethod yX2_activeCurrents, Cond.selects RX2 yX2_activeCurrents yX2_activeCurrents, Cond.code yX2_activeCurrents cX2_activeCurrents 3 (some .int), Cond.methodLink RX2 155 yX1_beginPulse, Cond.instanceMethod yX1_beginPulse, Cond.selects RX1 yX1_beginPulse yX1_beginPulse, Cond.code yX1_beginPulse cX1_beginPulse 2 none, Cond.fieldLink RX1 18 "PhaseConverter$Phase" "rest" "I", Cond.fieldLink RX1 30 "PhaseConverter$Phase" "pulses" "I", Cond.methodLink RX2 115 yX2_moveCurrents, Cond.instanceMethod yX2_moveCurrents, Cond.selects RX2 yX2_moveCurrents yX2_moveCurrents, Cond.code yX2_moveCurrents cX2_moveCurrents 7 (some .int), Cond.fieldLink RX2 79 "PhaseConverter$Plant" "peakCurrent" "I", Cond.methodLink RX2 157 yX1_passSlot, Cond.instanceMethod yX1_passSlot, Cond.selects RX1 yX1_passSlot yX1_passSlot, Cond.code yX1_passSlot cX1_passSlot 4 none, Cond.fieldLink RX1 9 "PhaseConverter$Phase" "current" "I", Cond.fieldLink RX1 24 "PhaseConverter$Phase" "limitEvents" "I", Cond.fieldLink RX1 21 "PhaseConverter$Phase" "onSlots" "I", Cond.methodLink RX2 119 yX2_moveVoltage, Cond.instanceMethod yX2_moveVoltage]
def wsX2_passCycle_r5 : List Cond := [Cond.selects RX2 yX2_moveVoltage yX2_moveVoltage, Cond.code yX2_moveVoltage cX2_moveVoltage 3 none, Cond.constant RX2 161 (40000)]
def wsX2_passCycle : List Cond := .code yX2_passCycle cX2_passCycle 4 none :: ((wsX2_passCycle_r1 ++ (wsX2_passCycle_r2 ++ (wsX2_passCycle_r3 ++ (wsX2_passCycle_r4 ++ wsX2_passCycle_r5)))) ++ wsX20 ++ wsX10)
def wsX2_limitEvents : List Cond := .code yX2_limitEvents cX2_limitEvents 3 (some .int) :: ([.fieldLink RX2 30 "PhaseConverter$Plant" "phaseCount" "I", .fieldLink RX2 25 "PhaseConverter$Plant" "phases" "[LPhaseConverter$Phase;", .fieldLink RX2 162 "PhaseConverter$Phase" "limitEvents" "I"] ++ wsX20 ++ wsX10)
def wsX2_skippedPulses : List Cond := .code yX2_skippedPulses cX2_skippedPulses 3 (some .int) :: ([.fieldLink RX2 30 "PhaseConverter$Plant" "phaseCount" "I", .fieldLink RX2 25 "PhaseConverter$Plant" "phases" "[LPhaseConverter$Phase;", .fieldLink RX2 165 "PhaseConverter$Phase" "skipped" "I"] ++ wsX20 ++ wsX10)
def wsX2_currentSpread : List Cond := .code yX2_currentSpread cX2_currentSpread 4 (some .int) :: ([.fieldLink RX2 25 "PhaseConverter$Plant" "phases" "[LPhaseConverter$Phase;", .fieldLink RX2 149 "PhaseConverter$Phase" "current" "I", .fieldLink RX2 34 "PhaseConverter$Plant" "active" "I", .methodLink RX2 122 Lib.Math.min.name, .static Lib.Math.min.name, .initialized "java/lang/Math", .code Lib.Math.min.name Lib.Math.min.code 2 (some .int), .methodLink RX2 128 Lib.Math.max.name, .static Lib.Math.max.name, .code Lib.Math.max.name Lib.Math.max.code 2 (some .int)] ++ wsX20 ++ wsX10)
def wsX2_number_r1 : List Cond := [Cond.fieldLink RX2 46 "PhaseConverter$Plant" "mode" "I", Cond.fieldLink RX2 49 "PhaseConverter$Plant" "voltage" "I", Cond.fieldLink RX2 52 "PhaseConverter$Plant" "presentTarget" "I", Cond.fieldLink RX2 34 "PhaseConverter$Plant" "active" "I", Cond.fieldLink RX2 67 "PhaseConverter$Plant" "cycles" "I", Cond.fieldLink RX2 70 "PhaseConverter$Plant" "meanCurrent" "I", Cond.fieldLink RX2 55 "PhaseConverter$Plant" "integral" "I", Cond.fieldLink RX2 58 "PhaseConverter$Plant" "duty" "I", Cond.fieldLink RX2 79 "PhaseConverter$Plant" "peakCurrent" "I", Cond.fieldLink RX2 82 "PhaseConverter$Plant" "changes" "I", Cond.fieldLink RX2 30 "PhaseConverter$Plant" "phaseCount" "I", Cond.methodLink RX2 168 yX2_ripple, Cond.instanceMethod yX2_ripple, Cond.selects RX2 yX2_ripple yX2_ripple, Cond.initialized RX2, Cond.code yX2_ripple cX2_ripple 1 (some .int), Cond.fieldLink RX2 76 "PhaseConverter$Plant" "greatestVoltage" "I", Cond.fieldLink RX2 73 "PhaseConverter$Plant" "leastVoltage" "I", Cond.methodLink RX2 171 yX2_limitEvents, Cond.instanceMethod yX2_limitEvents, Cond.selects RX2 yX2_limitEvents yX2_limitEvents, Cond.code yX2_limitEvents cX2_limitEvents 3 (some .int), Cond.fieldLink RX2 25 "PhaseConverter$Plant" "phases" "[LPhaseConverter$Phase;", Cond.fieldLink RX2 162 "PhaseConverter$Phase" "limitEvents" "I"]
def wsX2_number_r2 : List Cond := [Cond.methodLink RX2 173 yX2_skippedPulses, Cond.instanceMethod yX2_skippedPulses, Cond.selects RX2 yX2_skippedPulses yX2_skippedPulses, Cond.code yX2_skippedPulses cX2_skippedPulses 3 (some .int), Cond.fieldLink RX2 165 "PhaseConverter$Phase" "skipped" "I"]
def wsX2_number : List Cond := .code yX2_number cX2_number 2 (some .int) :: ((wsX2_number_r1 ++ wsX2_number_r2) ++ wsX20 ++ wsX10)
def wsX3_init : List Cond := .code yX3_init cX3_init 1 none :: ([.methodLink RX3 3 objectInit, .instanceMethod objectInit, .code objectInit ⟨#[0xb1]⟩ 1 none, .arrayClass .int, .fieldLink RX3 9 "PhaseConverter$Program" "codes" "[I"] ++ wsX30)
def wsX3_take : List Cond := .code yX3_take cX3_take 2 (some .boolean) :: ([.fieldLink RX3 15 "PhaseConverter$Program" "length" "I", .fieldLink RX3 9 "PhaseConverter$Program" "codes" "[I"] ++ wsX30)
def wsX3_codeAt : List Cond := .code yX3_codeAt cX3_codeAt 2 (some .int) :: ([.fieldLink RX3 9 "PhaseConverter$Program" "codes" "[I"] ++ wsX30)
def wsX3_stateAfterLetter : List Cond := .code yX3_stateAfterLetter cX3_stateAfterLetter 1 (some .int) :: ([])
def wsX4_isDigit : List Cond := .code yX4_isDigit cX4_isDigit 1 (some .boolean) :: ([])
def wsX3_stateAfter : List Cond := .code yX3_stateAfter cX3_stateAfter 2 (some .int) :: ([.methodLink RX3 27 yX3_stateAfterLetter, .static yX3_stateAfterLetter, .initialized RX3, .code yX3_stateAfterLetter cX3_stateAfterLetter 1 (some .int), .static yX4_isDigit, .initialized RX4, .code yX4_isDigit cX4_isDigit 1 (some .boolean)])
def wsX3_errorIndex : List Cond := .code yX3_errorIndex cX3_errorIndex 3 (some .int) :: ([.fieldLink RX3 15 "PhaseConverter$Program" "length" "I", .methodLink RX3 19 yX3_codeAt, .instanceMethod yX3_codeAt, .selects RX3 yX3_codeAt yX3_codeAt, .initialized RX3, .code yX3_codeAt cX3_codeAt 2 (some .int), .fieldLink RX3 9 "PhaseConverter$Program" "codes" "[I", .methodLink RX3 23 yX3_stateAfter, .static yX3_stateAfter, .code yX3_stateAfter cX3_stateAfter 2 (some .int), .methodLink RX3 27 yX3_stateAfterLetter, .static yX3_stateAfterLetter, .code yX3_stateAfterLetter cX3_stateAfterLetter 1 (some .int), .static yX4_isDigit, .initialized RX4, .code yX4_isDigit cX4_isDigit 1 (some .boolean)] ++ wsX30)
def wsX3_isComplete : List Cond := .code yX3_isComplete cX3_isComplete 3 (some .boolean) :: ([.fieldLink RX3 15 "PhaseConverter$Program" "length" "I", .methodLink RX3 19 yX3_codeAt, .instanceMethod yX3_codeAt, .selects RX3 yX3_codeAt yX3_codeAt, .initialized RX3, .code yX3_codeAt cX3_codeAt 2 (some .int), .fieldLink RX3 9 "PhaseConverter$Program" "codes" "[I", .methodLink RX3 23 yX3_stateAfter, .static yX3_stateAfter, .code yX3_stateAfter cX3_stateAfter 2 (some .int), .methodLink RX3 27 yX3_stateAfterLetter, .static yX3_stateAfterLetter, .code yX3_stateAfterLetter cX3_stateAfterLetter 1 (some .int), .static yX4_isDigit, .initialized RX4, .code yX4_isDigit cX4_isDigit 1 (some .boolean)] ++ wsX30)
def wsX4_init_r1 : List Cond := [Cond.methodLink RX4 1 objectInit, Cond.instanceMethod objectInit, Cond.code objectInit ⟨#[0xb1]⟩ 1 none, Cond.classLink RX4 7 RX2, Cond.instantiable RX2 17, Cond.initialized RX2, Cond.fieldLink RX4 14 "PhaseConverter" "plant" "LPhaseConverter$Plant;", Cond.fieldLink RX4 18 "PhaseConverter" "trial" "LPhaseConverter$Plant;", Cond.classLink RX4 21 RX0, Cond.instantiable RX0 3, Cond.initialized RX0, Cond.fieldLink RX4 24 "PhaseConverter" "history" "LPhaseConverter$History;", Cond.classLink RX4 28 RX3, Cond.instantiable RX3 2, Cond.initialized RX3, Cond.fieldLink RX4 31 "PhaseConverter" "program" "LPhaseConverter$Program;", Cond.methodLink RX4 11 yX2_init, Cond.instanceMethod yX2_init, Cond.code yX2_init cX2_init 3 none, Cond.methodLink RX2 3 objectInit, Cond.methodLink RX2 13 ⟨"[I", "clone", "()Ljava/lang/Object;"⟩, Cond.sameMethod "[I" "java/lang/Object" "clone" "()Ljava/lang/Object;", Cond.native ⟨"java/lang/Object", "clone", "()Ljava/lang/Object;"⟩, Cond.instanceMethod ⟨"java/lang/Object", "clone", "()Ljava/lang/Object;"⟩]
def wsX4_init_r2 : List Cond := [Cond.selects "[I" ⟨"[I", "clone", "()Ljava/lang/Object;"⟩ ⟨"java/lang/Object", "clone", "()Ljava/lang/Object;"⟩, Cond.classLink RX2 14 "[I", Cond.fieldLink RX2 18 "PhaseConverter$Plant" "settings" "[I", Cond.classLink RX2 23 RX1, Cond.fieldLink RX2 25 "PhaseConverter$Plant" "phases" "[LPhaseConverter$Phase;", Cond.instantiable RX1 7, Cond.initialized RX1, Cond.fieldLink RX2 30 "PhaseConverter$Plant" "phaseCount" "I", Cond.fieldLink RX2 34 "PhaseConverter$Plant" "active" "I", Cond.instanceMethod yX1_init, Cond.code yX1_init cX1_init 1 none, Cond.methodLink RX1 3 objectInit, Cond.instanceMethod yX0_init, Cond.code yX0_init cX0_init 1 none, Cond.methodLink RX0 3 objectInit, Cond.arrayClass .int, Cond.fieldLink RX0 9 "PhaseConverter$History" "parts" "[I", Cond.instanceMethod yX3_init, Cond.code yX3_init cX3_init 1 none, Cond.methodLink RX3 3 objectInit, Cond.fieldLink RX3 9 "PhaseConverter$Program" "codes" "[I"]
def wsX4_init : List Cond := .code yX4_init cX4_init 1 none :: ((wsX4_init_r1 ++ wsX4_init_r2) ++ wsX20 ++ wsX40 ++ wsX00 ++ wsX30 ++ wsX10)
def wsX4_begin_r1 : List Cond := [Cond.classLink RX4 35 "java/lang/IllegalArgumentException", Cond.initialized "java/lang/IllegalArgumentException", Cond.fieldLink RX4 14 "PhaseConverter" "plant" "LPhaseConverter$Plant;", Cond.fieldLink RX4 42 "PhaseConverter$Plant" "phaseCount" "I", Cond.fieldLink RX4 24 "PhaseConverter" "history" "LPhaseConverter$History;", Cond.methodLink RX4 46 yX2_reset, Cond.instanceMethod yX2_reset, Cond.selects RX2 yX2_reset yX2_reset, Cond.initialized RX2, Cond.code yX2_reset cX2_reset 3 none, Cond.fieldLink RX2 18 "PhaseConverter$Plant" "settings" "[I", Cond.methodLink RX2 37 arraycopyName, Cond.native arraycopyName, Cond.static arraycopyName, Cond.initialized "java/lang/System", Cond.fieldLink RX2 25 "PhaseConverter$Plant" "phases" "[LPhaseConverter$Phase;", Cond.fieldLink RX2 30 "PhaseConverter$Plant" "phaseCount" "I", Cond.fieldLink RX2 34 "PhaseConverter$Plant" "active" "I", Cond.fieldLink RX2 46 "PhaseConverter$Plant" "mode" "I", Cond.fieldLink RX2 49 "PhaseConverter$Plant" "voltage" "I", Cond.fieldLink RX2 52 "PhaseConverter$Plant" "presentTarget" "I", Cond.fieldLink RX2 55 "PhaseConverter$Plant" "integral" "I", Cond.fieldLink RX2 58 "PhaseConverter$Plant" "duty" "I", Cond.fieldLink RX2 61 "PhaseConverter$Plant" "addingCount" "I"]
def wsX4_begin_r2 : List Cond := [Cond.fieldLink RX2 64 "PhaseConverter$Plant" "sheddingCount" "I", Cond.fieldLink RX2 67 "PhaseConverter$Plant" "cycles" "I", Cond.fieldLink RX2 70 "PhaseConverter$Plant" "meanCurrent" "I", Cond.fieldLink RX2 73 "PhaseConverter$Plant" "leastVoltage" "I", Cond.fieldLink RX2 76 "PhaseConverter$Plant" "greatestVoltage" "I", Cond.fieldLink RX2 79 "PhaseConverter$Plant" "peakCurrent" "I", Cond.fieldLink RX2 82 "PhaseConverter$Plant" "changes" "I", Cond.methodLink RX2 43 yX1_reset, Cond.instanceMethod yX1_reset, Cond.selects RX1 yX1_reset yX1_reset, Cond.initialized RX1, Cond.code yX1_reset cX1_reset 1 none, Cond.fieldLink RX1 9 "PhaseConverter$Phase" "current" "I", Cond.fieldLink RX1 15 "PhaseConverter$Phase" "onTime" "I", Cond.fieldLink RX1 18 "PhaseConverter$Phase" "rest" "I", Cond.fieldLink RX1 21 "PhaseConverter$Phase" "onSlots" "I", Cond.fieldLink RX1 24 "PhaseConverter$Phase" "limitEvents" "I", Cond.fieldLink RX1 27 "PhaseConverter$Phase" "skipped" "I", Cond.fieldLink RX1 30 "PhaseConverter$Phase" "pulses" "I", Cond.methodLink RX4 49 yX0_forget, Cond.instanceMethod yX0_forget, Cond.selects RX0 yX0_forget yX0_forget, Cond.initialized RX0, Cond.code yX0_forget cX0_forget 1 none]
def wsX4_begin_r3 : List Cond := [Cond.fieldLink RX0 15 "PhaseConverter$History" "size" "I", Cond.fieldLink RX0 19 "PhaseConverter$History" "newest" "I"]
def wsX4_begin : List Cond := .code yX4_begin cX4_begin 3 (some .int) :: ((wsX4_begin_r1 ++ (wsX4_begin_r2 ++ wsX4_begin_r3)) ++ wsX40 ++ wsX20 ++ wsX10 ++ wsX00 ++ (vx_atS RX4 39 "java/lang/IllegalArgumentException" ["java/lang/RuntimeException", "java/lang/Exception"]).filter goodWord)
def wsX4_isSetting : List Cond := .code yX4_isSetting cX4_isSetting 1 (some .boolean) :: ([])
def wsX4_fits : List Cond := .code yX4_fits cX4_fits 2 (some .boolean) :: ([.fieldLink RX4 216 "PhaseConverter" "LEAST" "[I", .fieldLink RX4 219 "PhaseConverter" "GREATEST" "[I", .methodLink RX4 52 yX4_isSetting, .static yX4_isSetting, .initialized RX4, .code yX4_isSetting cX4_isSetting 1 (some .boolean)])
def wsX4_set : List Cond := .code yX4_set cX4_set 4 (some .int) :: ([.classLink RX4 56 "java/lang/IndexOutOfBoundsException", .initialized "java/lang/IndexOutOfBoundsException", .classLink RX4 35 "java/lang/IllegalArgumentException", .initialized "java/lang/IllegalArgumentException", .fieldLink RX4 14 "PhaseConverter" "plant" "LPhaseConverter$Plant;", .fieldLink RX4 67 "PhaseConverter$Plant" "settings" "[I", .methodLink RX4 52 yX4_isSetting, .static yX4_isSetting, .initialized RX4, .code yX4_isSetting cX4_isSetting 1 (some .boolean), .methodLink RX4 61 yX4_fits, .static yX4_fits, .code yX4_fits cX4_fits 2 (some .boolean), .fieldLink RX4 216 "PhaseConverter" "LEAST" "[I", .fieldLink RX4 219 "PhaseConverter" "GREATEST" "[I"] ++ wsX40 ++ wsX20 ++ (vx_atS RX4 60 "java/lang/IndexOutOfBoundsException" ["java/lang/RuntimeException", "java/lang/Exception"]).filter goodWord ++ (vx_atS RX4 39 "java/lang/IllegalArgumentException" ["java/lang/RuntimeException", "java/lang/Exception"]).filter goodWord)
def wsX4_setting : List Cond := .code yX4_setting cX4_setting 2 (some .int) :: ([.classLink RX4 56 "java/lang/IndexOutOfBoundsException", .initialized "java/lang/IndexOutOfBoundsException", .fieldLink RX4 14 "PhaseConverter" "plant" "LPhaseConverter$Plant;", .fieldLink RX4 67 "PhaseConverter$Plant" "settings" "[I", .methodLink RX4 52 yX4_isSetting, .static yX4_isSetting, .initialized RX4, .code yX4_isSetting cX4_isSetting 1 (some .boolean)] ++ wsX40 ++ wsX20 ++ (vx_atS RX4 60 "java/lang/IndexOutOfBoundsException" ["java/lang/RuntimeException", "java/lang/Exception"]).filter goodWord)
def wsX4_start : List Cond := .code yX4_start cX4_start 1 (some .int) :: ([.classLink RX4 75 "java/lang/IllegalStateException", .initialized "java/lang/IllegalStateException", .fieldLink RX4 14 "PhaseConverter" "plant" "LPhaseConverter$Plant;", .fieldLink RX4 83 "PhaseConverter$Plant" "voltage" "I", .methodLink RX4 71 yX2_runs, .instanceMethod yX2_runs, .selects RX2 yX2_runs yX2_runs, .initialized RX2, .code yX2_runs cX2_runs 1 (some .boolean), .fieldLink RX2 46 "PhaseConverter$Plant" "mode" "I", .methodLink RX4 80 yX2_softStart, .instanceMethod yX2_softStart, .selects RX2 yX2_softStart yX2_softStart, .code yX2_softStart cX2_softStart 2 none, .fieldLink RX2 49 "PhaseConverter$Plant" "voltage" "I", .fieldLink RX2 52 "PhaseConverter$Plant" "presentTarget" "I", .fieldLink RX2 55 "PhaseConverter$Plant" "integral" "I", .fieldLink RX2 61 "PhaseConverter$Plant" "addingCount" "I", .fieldLink RX2 64 "PhaseConverter$Plant" "sheddingCount" "I", .fieldLink RX2 30 "PhaseConverter$Plant" "phaseCount" "I", .fieldLink RX2 34 "PhaseConverter$Plant" "active" "I", .fieldLink RX2 25 "PhaseConverter$Plant" "phases" "[LPhaseConverter$Phase;", .fieldLink RX2 89 "PhaseConverter$Phase" "rest" "I"] ++ wsX40 ++ wsX20 ++ wsX10 ++ (vx_atS RX4 79 "java/lang/IllegalStateException" ["java/lang/RuntimeException", "java/lang/Exception"]).filter goodWord)
def wsX4_stop : List Cond := .code yX4_stop cX4_stop 2 (some .int) :: ([.fieldLink RX4 14 "PhaseConverter" "plant" "LPhaseConverter$Plant;", .fieldLink RX4 86 "PhaseConverter$Plant" "mode" "I", .methodLink RX4 89 yX2_halt, .instanceMethod yX2_halt, .selects RX2 yX2_halt yX2_halt, .initialized RX2, .code yX2_halt cX2_halt 3 none, .fieldLink RX2 46 "PhaseConverter$Plant" "mode" "I", .fieldLink RX2 25 "PhaseConverter$Plant" "phases" "[LPhaseConverter$Phase;", .fieldLink RX2 92 "PhaseConverter$Phase" "onTime" "I"] ++ wsX40 ++ wsX20 ++ wsX10)
def wsX4_isRunLength : List Cond := .code yX4_isRunLength cX4_isRunLength 1 (some .boolean) :: ([])
def wsX4_hasRoomFor : List Cond := .code yX4_hasRoomFor cX4_hasRoomFor 2 (some .boolean) :: ([.fieldLink RX4 14 "PhaseConverter" "plant" "LPhaseConverter$Plant;", .fieldLink RX4 222 "PhaseConverter$Plant" "cycles" "I", .constant RX4 225 (100000)] ++ wsX40 ++ wsX20)
def wsX4_passCycles_r1 : List Cond := [Cond.fieldLink RX4 14 "PhaseConverter" "plant" "LPhaseConverter$Plant;", Cond.fieldLink RX4 24 "PhaseConverter" "history" "LPhaseConverter$History;", Cond.methodLink RX4 226 yX2_limitEvents, Cond.instanceMethod yX2_limitEvents, Cond.selects RX2 yX2_limitEvents yX2_limitEvents, Cond.initialized RX2, Cond.code yX2_limitEvents cX2_limitEvents 3 (some .int), Cond.fieldLink RX2 30 "PhaseConverter$Plant" "phaseCount" "I", Cond.fieldLink RX2 25 "PhaseConverter$Plant" "phases" "[LPhaseConverter$Phase;", Cond.fieldLink RX2 162 "PhaseConverter$Phase" "limitEvents" "I", Cond.methodLink RX4 176 yX2_passCycle, Cond.instanceMethod yX2_passCycle, Cond.selects RX2 yX2_passCycle yX2_passCycle, Cond.code yX2_passCycle cX2_passCycle 4 none, Cond.fieldLink RX2 18 "PhaseConverter$Plant" "settings" "[I", Cond.fieldLink RX2 49 "PhaseConverter$Plant" "voltage" "I", Cond.fieldLink RX2 73 "PhaseConverter$Plant" "leastVoltage" "I", Cond.methodLink RX2 122 Lib.Math.min.name, Cond.static Lib.Math.min.name, Cond.initialized "java/lang/Math", Cond.code Lib.Math.min.name Lib.Math.min.code 2 (some .int), Cond.fieldLink RX2 76 "PhaseConverter$Plant" "greatestVoltage" "I", Cond.methodLink RX2 128 Lib.Math.max.name, Cond.static Lib.Math.max.name]
def wsX4_passCycles_r2 : List Cond := [Cond.code Lib.Math.max.name Lib.Math.max.code 2 (some .int), Cond.fieldLink RX2 70 "PhaseConverter$Plant" "meanCurrent" "I", Cond.fieldLink RX2 67 "PhaseConverter$Plant" "cycles" "I", Cond.methodLink RX2 95 yX2_runs, Cond.instanceMethod yX2_runs, Cond.selects RX2 yX2_runs yX2_runs, Cond.code yX2_runs cX2_runs 1 (some .boolean), Cond.fieldLink RX2 46 "PhaseConverter$Plant" "mode" "I", Cond.methodLink RX2 99 yX2_halt, Cond.instanceMethod yX2_halt, Cond.selects RX2 yX2_halt yX2_halt, Cond.code yX2_halt cX2_halt 3 none, Cond.fieldLink RX2 92 "PhaseConverter$Phase" "onTime" "I", Cond.methodLink RX2 103 yX2_moveTarget, Cond.instanceMethod yX2_moveTarget, Cond.selects RX2 yX2_moveTarget yX2_moveTarget, Cond.code yX2_moveTarget cX2_moveTarget 2 none, Cond.fieldLink RX2 52 "PhaseConverter$Plant" "presentTarget" "I", Cond.methodLink RX2 106 yX2_regulate, Cond.instanceMethod yX2_regulate, Cond.selects RX2 yX2_regulate yX2_regulate, Cond.code yX2_regulate cX2_regulate 5 none, Cond.fieldLink RX2 55 "PhaseConverter$Plant" "integral" "I", Cond.constant RX2 131 (-100000)]
def wsX4_passCycles_r3 : List Cond := [Cond.constant RX2 132 (100000), Cond.fieldLink RX2 58 "PhaseConverter$Plant" "duty" "I", Cond.static yX4_clamp, Cond.initialized RX4, Cond.code yX4_clamp cX4_clamp 3 (some .int), Cond.static yX4_quotient, Cond.code yX4_quotient cX4_quotient 2 (some .int), Cond.methodLink RX2 109 yX2_adaptPhases, Cond.instanceMethod yX2_adaptPhases, Cond.selects RX2 yX2_adaptPhases yX2_adaptPhases, Cond.code yX2_adaptPhases cX2_adaptPhases 3 none, Cond.fieldLink RX2 34 "PhaseConverter$Plant" "active" "I", Cond.fieldLink RX2 61 "PhaseConverter$Plant" "addingCount" "I", Cond.fieldLink RX2 64 "PhaseConverter$Plant" "sheddingCount" "I", Cond.methodLink RX2 140 yX2_changeActive, Cond.instanceMethod yX2_changeActive, Cond.selects RX2 yX2_changeActive yX2_changeActive, Cond.code yX2_changeActive cX2_changeActive 2 none, Cond.fieldLink RX2 82 "PhaseConverter$Plant" "changes" "I", Cond.methodLink RX2 112 yX2_beginPulses, Cond.instanceMethod yX2_beginPulses, Cond.selects RX2 yX2_beginPulses yX2_beginPulses, Cond.code yX2_beginPulses cX2_beginPulses 3 none, Cond.methodLink RX2 143 yX2_beginPulse]
def wsX4_passCycles_r4 : List Cond := [Cond.instanceMethod yX2_beginPulse, Cond.selects RX2 yX2_beginPulse yX2_beginPulse, Cond.code yX2_beginPulse cX2_beginPulse 5 none, Cond.fieldLink RX2 149 "PhaseConverter$Phase" "current" "I", Cond.methodLink RX2 146 yX1_skipPulse, Cond.instanceMethod yX1_skipPulse, Cond.selects RX1 yX1_skipPulse yX1_skipPulse, Cond.initialized RX1, Cond.code yX1_skipPulse cX1_skipPulse 1 none, Cond.fieldLink RX1 15 "PhaseConverter$Phase" "onTime" "I", Cond.fieldLink RX1 27 "PhaseConverter$Phase" "skipped" "I", Cond.methodLink RX2 152 yX2_activeCurrents, Cond.instanceMethod yX2_activeCurrents, Cond.selects RX2 yX2_activeCurrents yX2_activeCurrents, Cond.code yX2_activeCurrents cX2_activeCurrents 3 (some .int), Cond.methodLink RX2 155 yX1_beginPulse, Cond.instanceMethod yX1_beginPulse, Cond.selects RX1 yX1_beginPulse yX1_beginPulse, Cond.code yX1_beginPulse cX1_beginPulse 2 none, Cond.fieldLink RX1 18 "PhaseConverter$Phase" "rest" "I", Cond.fieldLink RX1 30 "PhaseConverter$Phase" "pulses" "I", Cond.methodLink RX2 115 yX2_moveCurrents, Cond.instanceMethod yX2_moveCurrents, Cond.selects RX2 yX2_moveCurrents yX2_moveCurrents]
def wsX4_passCycles_r5 : List Cond := [Cond.code yX2_moveCurrents cX2_moveCurrents 7 (some .int), Cond.fieldLink RX2 79 "PhaseConverter$Plant" "peakCurrent" "I", Cond.methodLink RX2 157 yX1_passSlot, Cond.instanceMethod yX1_passSlot, Cond.selects RX1 yX1_passSlot yX1_passSlot, Cond.code yX1_passSlot cX1_passSlot 4 none, Cond.fieldLink RX1 9 "PhaseConverter$Phase" "current" "I", Cond.fieldLink RX1 24 "PhaseConverter$Phase" "limitEvents" "I", Cond.fieldLink RX1 21 "PhaseConverter$Phase" "onSlots" "I", Cond.methodLink RX2 119 yX2_moveVoltage, Cond.instanceMethod yX2_moveVoltage, Cond.selects RX2 yX2_moveVoltage yX2_moveVoltage, Cond.code yX2_moveVoltage cX2_moveVoltage 3 none, Cond.constant RX2 161 (40000), Cond.methodLink RX4 229 yX0_keep, Cond.instanceMethod yX0_keep, Cond.selects RX0 yX0_keep yX0_keep, Cond.initialized RX0, Cond.code yX0_keep cX0_keep 4 none, Cond.fieldLink RX0 19 "PhaseConverter$History" "newest" "I", Cond.fieldLink RX0 15 "PhaseConverter$History" "size" "I", Cond.methodLink RX0 22 Lib.Math.min.name, Cond.fieldLink RX0 9 "PhaseConverter$History" "parts" "[I", Cond.fieldLink RX0 28 "PhaseConverter$Plant" "voltage" "I"]
def wsX4_passCycles_r6 : List Cond := [Cond.fieldLink RX0 33 "PhaseConverter$Plant" "meanCurrent" "I", Cond.fieldLink RX0 40 "PhaseConverter$Plant" "active" "I", Cond.fieldLink RX0 43 "PhaseConverter$Plant" "mode" "I", Cond.methodLink RX0 36 yX2_ripple, Cond.instanceMethod yX2_ripple, Cond.selects RX2 yX2_ripple yX2_ripple, Cond.code yX2_ripple cX2_ripple 1 (some .int)]
def wsX4_passCycles : List Cond := .code yX4_passCycles cX4_passCycles 4 none :: ((wsX4_passCycles_r1 ++ (wsX4_passCycles_r2 ++ (wsX4_passCycles_r3 ++ (wsX4_passCycles_r4 ++ (wsX4_passCycles_r5 ++ wsX4_passCycles_r6))))) ++ wsX40 ++ wsX20 ++ wsX10 ++ wsX00)
def wsX4_run_r1 : List Cond := [Cond.classLink RX4 35 "java/lang/IllegalArgumentException", Cond.initialized "java/lang/IllegalArgumentException", Cond.classLink RX4 75 "java/lang/IllegalStateException", Cond.initialized "java/lang/IllegalStateException", Cond.fieldLink RX4 14 "PhaseConverter" "plant" "LPhaseConverter$Plant;", Cond.fieldLink RX4 83 "PhaseConverter$Plant" "voltage" "I", Cond.methodLink RX4 92 yX4_isRunLength, Cond.static yX4_isRunLength, Cond.initialized RX4, Cond.code yX4_isRunLength cX4_isRunLength 1 (some .boolean), Cond.methodLink RX4 97 yX4_hasRoomFor, Cond.instanceMethod yX4_hasRoomFor, Cond.selects RX4 yX4_hasRoomFor yX4_hasRoomFor, Cond.code yX4_hasRoomFor cX4_hasRoomFor 2 (some .boolean), Cond.fieldLink RX4 222 "PhaseConverter$Plant" "cycles" "I", Cond.constant RX4 225 (100000), Cond.methodLink RX4 102 yX4_passCycles, Cond.instanceMethod yX4_passCycles, Cond.selects RX4 yX4_passCycles yX4_passCycles, Cond.code yX4_passCycles cX4_passCycles 4 none, Cond.fieldLink RX4 24 "PhaseConverter" "history" "LPhaseConverter$History;", Cond.methodLink RX4 226 yX2_limitEvents, Cond.instanceMethod yX2_limitEvents, Cond.selects RX2 yX2_limitEvents yX2_limitEvents]
def wsX4_run_r2 : List Cond := [Cond.initialized RX2, Cond.code yX2_limitEvents cX2_limitEvents 3 (some .int), Cond.fieldLink RX2 30 "PhaseConverter$Plant" "phaseCount" "I", Cond.fieldLink RX2 25 "PhaseConverter$Plant" "phases" "[LPhaseConverter$Phase;", Cond.fieldLink RX2 162 "PhaseConverter$Phase" "limitEvents" "I", Cond.methodLink RX4 176 yX2_passCycle, Cond.instanceMethod yX2_passCycle, Cond.selects RX2 yX2_passCycle yX2_passCycle, Cond.code yX2_passCycle cX2_passCycle 4 none, Cond.fieldLink RX2 18 "PhaseConverter$Plant" "settings" "[I", Cond.fieldLink RX2 49 "PhaseConverter$Plant" "voltage" "I", Cond.fieldLink RX2 73 "PhaseConverter$Plant" "leastVoltage" "I", Cond.methodLink RX2 122 Lib.Math.min.name, Cond.static Lib.Math.min.name, Cond.initialized "java/lang/Math", Cond.code Lib.Math.min.name Lib.Math.min.code 2 (some .int), Cond.fieldLink RX2 76 "PhaseConverter$Plant" "greatestVoltage" "I", Cond.methodLink RX2 128 Lib.Math.max.name, Cond.static Lib.Math.max.name, Cond.code Lib.Math.max.name Lib.Math.max.code 2 (some .int), Cond.fieldLink RX2 70 "PhaseConverter$Plant" "meanCurrent" "I", Cond.fieldLink RX2 67 "PhaseConverter$Plant" "cycles" "I", Cond.methodLink RX2 95 yX2_runs, Cond.instanceMethod yX2_runs]
def wsX4_run_r3 : List Cond := [Cond.selects RX2 yX2_runs yX2_runs, Cond.code yX2_runs cX2_runs 1 (some .boolean), Cond.fieldLink RX2 46 "PhaseConverter$Plant" "mode" "I", Cond.methodLink RX2 99 yX2_halt, Cond.instanceMethod yX2_halt, Cond.selects RX2 yX2_halt yX2_halt, Cond.code yX2_halt cX2_halt 3 none, Cond.fieldLink RX2 92 "PhaseConverter$Phase" "onTime" "I", Cond.methodLink RX2 103 yX2_moveTarget, Cond.instanceMethod yX2_moveTarget, Cond.selects RX2 yX2_moveTarget yX2_moveTarget, Cond.code yX2_moveTarget cX2_moveTarget 2 none, Cond.fieldLink RX2 52 "PhaseConverter$Plant" "presentTarget" "I", Cond.methodLink RX2 106 yX2_regulate, Cond.instanceMethod yX2_regulate, Cond.selects RX2 yX2_regulate yX2_regulate, Cond.code yX2_regulate cX2_regulate 5 none, Cond.fieldLink RX2 55 "PhaseConverter$Plant" "integral" "I", Cond.constant RX2 131 (-100000), Cond.constant RX2 132 (100000), Cond.fieldLink RX2 58 "PhaseConverter$Plant" "duty" "I", Cond.static yX4_clamp, Cond.code yX4_clamp cX4_clamp 3 (some .int), Cond.static yX4_quotient]
def wsX4_run_r4 : List Cond := [Cond.code yX4_quotient cX4_quotient 2 (some .int), Cond.methodLink RX2 109 yX2_adaptPhases, Cond.instanceMethod yX2_adaptPhases, Cond.selects RX2 yX2_adaptPhases yX2_adaptPhases, Cond.code yX2_adaptPhases cX2_adaptPhases 3 none, Cond.fieldLink RX2 34 "PhaseConverter$Plant" "active" "I", Cond.fieldLink RX2 61 "PhaseConverter$Plant" "addingCount" "I", Cond.fieldLink RX2 64 "PhaseConverter$Plant" "sheddingCount" "I", Cond.methodLink RX2 140 yX2_changeActive, Cond.instanceMethod yX2_changeActive, Cond.selects RX2 yX2_changeActive yX2_changeActive, Cond.code yX2_changeActive cX2_changeActive 2 none, Cond.fieldLink RX2 82 "PhaseConverter$Plant" "changes" "I", Cond.methodLink RX2 112 yX2_beginPulses, Cond.instanceMethod yX2_beginPulses, Cond.selects RX2 yX2_beginPulses yX2_beginPulses, Cond.code yX2_beginPulses cX2_beginPulses 3 none, Cond.methodLink RX2 143 yX2_beginPulse, Cond.instanceMethod yX2_beginPulse, Cond.selects RX2 yX2_beginPulse yX2_beginPulse, Cond.code yX2_beginPulse cX2_beginPulse 5 none, Cond.fieldLink RX2 149 "PhaseConverter$Phase" "current" "I", Cond.methodLink RX2 146 yX1_skipPulse, Cond.instanceMethod yX1_skipPulse]
def wsX4_run_r5 : List Cond := [Cond.selects RX1 yX1_skipPulse yX1_skipPulse, Cond.initialized RX1, Cond.code yX1_skipPulse cX1_skipPulse 1 none, Cond.fieldLink RX1 15 "PhaseConverter$Phase" "onTime" "I", Cond.fieldLink RX1 27 "PhaseConverter$Phase" "skipped" "I", Cond.methodLink RX2 152 yX2_activeCurrents, Cond.instanceMethod yX2_activeCurrents, Cond.selects RX2 yX2_activeCurrents yX2_activeCurrents, Cond.code yX2_activeCurrents cX2_activeCurrents 3 (some .int), Cond.methodLink RX2 155 yX1_beginPulse, Cond.instanceMethod yX1_beginPulse, Cond.selects RX1 yX1_beginPulse yX1_beginPulse, Cond.code yX1_beginPulse cX1_beginPulse 2 none, Cond.fieldLink RX1 18 "PhaseConverter$Phase" "rest" "I", Cond.fieldLink RX1 30 "PhaseConverter$Phase" "pulses" "I", Cond.methodLink RX2 115 yX2_moveCurrents, Cond.instanceMethod yX2_moveCurrents, Cond.selects RX2 yX2_moveCurrents yX2_moveCurrents, Cond.code yX2_moveCurrents cX2_moveCurrents 7 (some .int), Cond.fieldLink RX2 79 "PhaseConverter$Plant" "peakCurrent" "I", Cond.methodLink RX2 157 yX1_passSlot, Cond.instanceMethod yX1_passSlot, Cond.selects RX1 yX1_passSlot yX1_passSlot, Cond.code yX1_passSlot cX1_passSlot 4 none]
def wsX4_run_r6 : List Cond := [Cond.fieldLink RX1 9 "PhaseConverter$Phase" "current" "I", Cond.fieldLink RX1 24 "PhaseConverter$Phase" "limitEvents" "I", Cond.fieldLink RX1 21 "PhaseConverter$Phase" "onSlots" "I", Cond.methodLink RX2 119 yX2_moveVoltage, Cond.instanceMethod yX2_moveVoltage, Cond.selects RX2 yX2_moveVoltage yX2_moveVoltage, Cond.code yX2_moveVoltage cX2_moveVoltage 3 none, Cond.constant RX2 161 (40000), Cond.methodLink RX4 229 yX0_keep, Cond.instanceMethod yX0_keep, Cond.selects RX0 yX0_keep yX0_keep, Cond.initialized RX0, Cond.code yX0_keep cX0_keep 4 none, Cond.fieldLink RX0 19 "PhaseConverter$History" "newest" "I", Cond.fieldLink RX0 15 "PhaseConverter$History" "size" "I", Cond.methodLink RX0 22 Lib.Math.min.name, Cond.fieldLink RX0 9 "PhaseConverter$History" "parts" "[I", Cond.fieldLink RX0 28 "PhaseConverter$Plant" "voltage" "I", Cond.fieldLink RX0 33 "PhaseConverter$Plant" "meanCurrent" "I", Cond.fieldLink RX0 40 "PhaseConverter$Plant" "active" "I", Cond.fieldLink RX0 43 "PhaseConverter$Plant" "mode" "I", Cond.methodLink RX0 36 yX2_ripple, Cond.instanceMethod yX2_ripple, Cond.selects RX2 yX2_ripple yX2_ripple]
def wsX4_run_r7 : List Cond := [Cond.code yX2_ripple cX2_ripple 1 (some .int)]
def wsX4_run : List Cond := .code yX4_run cX4_run 2 (some .int) :: ((wsX4_run_r1 ++ (wsX4_run_r2 ++ (wsX4_run_r3 ++ (wsX4_run_r4 ++ (wsX4_run_r5 ++ (wsX4_run_r6 ++ wsX4_run_r7)))))) ++ wsX40 ++ wsX20 ++ wsX10 ++ wsX00 ++ (vx_atS RX4 39 "java/lang/IllegalArgumentException" ["java/lang/RuntimeException", "java/lang/Exception"]).filter goodWord ++ (vx_atS RX4 79 "java/lang/IllegalStateException" ["java/lang/RuntimeException", "java/lang/Exception"]).filter goodWord)
def wsX4_append : List Cond := .code yX4_append cX4_append 2 (some .int) :: ([.classLink RX4 35 "java/lang/IllegalArgumentException", .initialized "java/lang/IllegalArgumentException", .classLink RX4 75 "java/lang/IllegalStateException", .initialized "java/lang/IllegalStateException", .fieldLink RX4 31 "PhaseConverter" "program" "LPhaseConverter$Program;", .fieldLink RX4 112 "PhaseConverter$Program" "length" "I", .methodLink RX4 107 yX3_take, .instanceMethod yX3_take, .selects RX3 yX3_take yX3_take, .initialized RX3, .code yX3_take cX3_take 2 (some .boolean), .fieldLink RX3 15 "PhaseConverter$Program" "length" "I", .fieldLink RX3 9 "PhaseConverter$Program" "codes" "[I"] ++ wsX40 ++ wsX30 ++ (vx_atS RX4 39 "java/lang/IllegalArgumentException" ["java/lang/RuntimeException", "java/lang/Exception"]).filter goodWord ++ (vx_atS RX4 79 "java/lang/IllegalStateException" ["java/lang/RuntimeException", "java/lang/Exception"]).filter goodWord)
def wsX4_clearBuffer : List Cond := .code yX4_clearBuffer cX4_clearBuffer 2 (some .int) :: ([.fieldLink RX4 31 "PhaseConverter" "program" "LPhaseConverter$Program;", .fieldLink RX4 112 "PhaseConverter$Program" "length" "I"] ++ wsX40 ++ wsX30)
def wsX4_firstError : List Cond := .code yX4_firstError cX4_firstError 1 (some .int) :: ([.fieldLink RX4 31 "PhaseConverter" "program" "LPhaseConverter$Program;", .methodLink RX4 115 yX3_errorIndex, .instanceMethod yX3_errorIndex, .selects RX3 yX3_errorIndex yX3_errorIndex, .initialized RX3, .code yX3_errorIndex cX3_errorIndex 3 (some .int), .fieldLink RX3 15 "PhaseConverter$Program" "length" "I", .methodLink RX3 19 yX3_codeAt, .instanceMethod yX3_codeAt, .selects RX3 yX3_codeAt yX3_codeAt, .code yX3_codeAt cX3_codeAt 2 (some .int), .fieldLink RX3 9 "PhaseConverter$Program" "codes" "[I", .methodLink RX3 23 yX3_stateAfter, .static yX3_stateAfter, .code yX3_stateAfter cX3_stateAfter 2 (some .int), .methodLink RX3 27 yX3_stateAfterLetter, .static yX3_stateAfterLetter, .code yX3_stateAfterLetter cX3_stateAfterLetter 1 (some .int), .static yX4_isDigit, .initialized RX4, .code yX4_isDigit cX4_isDigit 1 (some .boolean)] ++ wsX40 ++ wsX30)
def wsX4_settingOf : List Cond := .code yX4_settingOf cX4_settingOf 1 (some .int) :: ([])
def wsX4_isPossible_r1 : List Cond := [Cond.fieldLink RX4 14 "PhaseConverter" "plant" "LPhaseConverter$Plant;", Cond.methodLink RX4 71 yX2_runs, Cond.instanceMethod yX2_runs, Cond.selects RX2 yX2_runs yX2_runs, Cond.initialized RX2, Cond.code yX2_runs cX2_runs 1 (some .boolean), Cond.fieldLink RX2 46 "PhaseConverter$Plant" "mode" "I", Cond.methodLink RX4 92 yX4_isRunLength, Cond.static yX4_isRunLength, Cond.initialized RX4, Cond.code yX4_isRunLength cX4_isRunLength 1 (some .boolean), Cond.methodLink RX4 97 yX4_hasRoomFor, Cond.instanceMethod yX4_hasRoomFor, Cond.selects RX4 yX4_hasRoomFor yX4_hasRoomFor, Cond.code yX4_hasRoomFor cX4_hasRoomFor 2 (some .boolean), Cond.fieldLink RX4 222 "PhaseConverter$Plant" "cycles" "I", Cond.constant RX4 225 (100000), Cond.methodLink RX4 233 yX4_settingOf, Cond.static yX4_settingOf, Cond.code yX4_settingOf cX4_settingOf 1 (some .int), Cond.methodLink RX4 61 yX4_fits, Cond.static yX4_fits, Cond.code yX4_fits cX4_fits 2 (some .boolean), Cond.fieldLink RX4 216 "PhaseConverter" "LEAST" "[I"]
def wsX4_isPossible_r2 : List Cond := [Cond.fieldLink RX4 219 "PhaseConverter" "GREATEST" "[I", Cond.methodLink RX4 52 yX4_isSetting, Cond.static yX4_isSetting, Cond.code yX4_isSetting cX4_isSetting 1 (some .boolean)]
def wsX4_isPossible : List Cond := .code yX4_isPossible cX4_isPossible 3 (some .boolean) :: ((wsX4_isPossible_r1 ++ wsX4_isPossible_r2) ++ wsX40 ++ wsX20)
def wsX4_carryOut_r1 : List Cond := [Cond.fieldLink RX4 14 "PhaseConverter" "plant" "LPhaseConverter$Plant;", Cond.fieldLink RX4 67 "PhaseConverter$Plant" "settings" "[I", Cond.methodLink RX4 80 yX2_softStart, Cond.instanceMethod yX2_softStart, Cond.selects RX2 yX2_softStart yX2_softStart, Cond.initialized RX2, Cond.code yX2_softStart cX2_softStart 2 none, Cond.fieldLink RX2 46 "PhaseConverter$Plant" "mode" "I", Cond.fieldLink RX2 49 "PhaseConverter$Plant" "voltage" "I", Cond.fieldLink RX2 52 "PhaseConverter$Plant" "presentTarget" "I", Cond.fieldLink RX2 55 "PhaseConverter$Plant" "integral" "I", Cond.fieldLink RX2 61 "PhaseConverter$Plant" "addingCount" "I", Cond.fieldLink RX2 64 "PhaseConverter$Plant" "sheddingCount" "I", Cond.fieldLink RX2 30 "PhaseConverter$Plant" "phaseCount" "I", Cond.fieldLink RX2 34 "PhaseConverter$Plant" "active" "I", Cond.fieldLink RX2 25 "PhaseConverter$Plant" "phases" "[LPhaseConverter$Phase;", Cond.fieldLink RX2 89 "PhaseConverter$Phase" "rest" "I", Cond.methodLink RX4 89 yX2_halt, Cond.instanceMethod yX2_halt, Cond.selects RX2 yX2_halt yX2_halt, Cond.code yX2_halt cX2_halt 3 none, Cond.fieldLink RX2 92 "PhaseConverter$Phase" "onTime" "I", Cond.methodLink RX4 102 yX4_passCycles, Cond.instanceMethod yX4_passCycles]
def wsX4_carryOut_r2 : List Cond := [Cond.selects RX4 yX4_passCycles yX4_passCycles, Cond.initialized RX4, Cond.code yX4_passCycles cX4_passCycles 4 none, Cond.fieldLink RX4 24 "PhaseConverter" "history" "LPhaseConverter$History;", Cond.methodLink RX4 226 yX2_limitEvents, Cond.instanceMethod yX2_limitEvents, Cond.selects RX2 yX2_limitEvents yX2_limitEvents, Cond.code yX2_limitEvents cX2_limitEvents 3 (some .int), Cond.fieldLink RX2 162 "PhaseConverter$Phase" "limitEvents" "I", Cond.methodLink RX4 176 yX2_passCycle, Cond.instanceMethod yX2_passCycle, Cond.selects RX2 yX2_passCycle yX2_passCycle, Cond.code yX2_passCycle cX2_passCycle 4 none, Cond.fieldLink RX2 18 "PhaseConverter$Plant" "settings" "[I", Cond.fieldLink RX2 73 "PhaseConverter$Plant" "leastVoltage" "I", Cond.methodLink RX2 122 Lib.Math.min.name, Cond.static Lib.Math.min.name, Cond.initialized "java/lang/Math", Cond.code Lib.Math.min.name Lib.Math.min.code 2 (some .int), Cond.fieldLink RX2 76 "PhaseConverter$Plant" "greatestVoltage" "I", Cond.methodLink RX2 128 Lib.Math.max.name, Cond.static Lib.Math.max.name, Cond.code Lib.Math.max.name Lib.Math.max.code 2 (some .int), Cond.fieldLink RX2 70 "PhaseConverter$Plant" "meanCurrent" "I"]
def wsX4_carryOut_r3 : List Cond := [Cond.fieldLink RX2 67 "PhaseConverter$Plant" "cycles" "I", Cond.methodLink RX2 95 yX2_runs, Cond.instanceMethod yX2_runs, Cond.selects RX2 yX2_runs yX2_runs, Cond.code yX2_runs cX2_runs 1 (some .boolean), Cond.methodLink RX2 99 yX2_halt, Cond.methodLink RX2 103 yX2_moveTarget, Cond.instanceMethod yX2_moveTarget, Cond.selects RX2 yX2_moveTarget yX2_moveTarget, Cond.code yX2_moveTarget cX2_moveTarget 2 none, Cond.methodLink RX2 106 yX2_regulate, Cond.instanceMethod yX2_regulate, Cond.selects RX2 yX2_regulate yX2_regulate, Cond.code yX2_regulate cX2_regulate 5 none, Cond.constant RX2 131 (-100000), Cond.constant RX2 132 (100000), Cond.fieldLink RX2 58 "PhaseConverter$Plant" "duty" "I", Cond.static yX4_clamp, Cond.code yX4_clamp cX4_clamp 3 (some .int), Cond.static yX4_quotient, Cond.code yX4_quotient cX4_quotient 2 (some .int), Cond.methodLink RX2 109 yX2_adaptPhases, Cond.instanceMethod yX2_adaptPhases, Cond.selects RX2 yX2_adaptPhases yX2_adaptPhases]
def wsX4_carryOut_r4 : List Cond := [Cond.code yX2_adaptPhases cX2_adaptPhases 3 none, Cond.methodLink RX2 140 yX2_changeActive, Cond.instanceMethod yX2_changeActive, Cond.selects RX2 yX2_changeActive yX2_changeActive, Cond.code yX2_changeActive cX2_changeActive 2 none, Cond.fieldLink RX2 82 "PhaseConverter$Plant" "changes" "I", Cond.methodLink RX2 112 yX2_beginPulses, Cond.instanceMethod yX2_beginPulses, Cond.selects RX2 yX2_beginPulses yX2_beginPulses, Cond.code yX2_beginPulses cX2_beginPulses 3 none, Cond.methodLink RX2 143 yX2_beginPulse, Cond.instanceMethod yX2_beginPulse, Cond.selects RX2 yX2_beginPulse yX2_beginPulse, Cond.code yX2_beginPulse cX2_beginPulse 5 none, Cond.fieldLink RX2 149 "PhaseConverter$Phase" "current" "I", Cond.methodLink RX2 146 yX1_skipPulse, Cond.instanceMethod yX1_skipPulse, Cond.selects RX1 yX1_skipPulse yX1_skipPulse, Cond.initialized RX1, Cond.code yX1_skipPulse cX1_skipPulse 1 none, Cond.fieldLink RX1 15 "PhaseConverter$Phase" "onTime" "I", Cond.fieldLink RX1 27 "PhaseConverter$Phase" "skipped" "I", Cond.methodLink RX2 152 yX2_activeCurrents, Cond.instanceMethod yX2_activeCurrents]
def wsX4_carryOut_r5 : List Cond := [Cond.selects RX2 yX2_activeCurrents yX2_activeCurrents, Cond.code yX2_activeCurrents cX2_activeCurrents 3 (some .int), Cond.methodLink RX2 155 yX1_beginPulse, Cond.instanceMethod yX1_beginPulse, Cond.selects RX1 yX1_beginPulse yX1_beginPulse, Cond.code yX1_beginPulse cX1_beginPulse 2 none, Cond.fieldLink RX1 18 "PhaseConverter$Phase" "rest" "I", Cond.fieldLink RX1 30 "PhaseConverter$Phase" "pulses" "I", Cond.methodLink RX2 115 yX2_moveCurrents, Cond.instanceMethod yX2_moveCurrents, Cond.selects RX2 yX2_moveCurrents yX2_moveCurrents, Cond.code yX2_moveCurrents cX2_moveCurrents 7 (some .int), Cond.fieldLink RX2 79 "PhaseConverter$Plant" "peakCurrent" "I", Cond.methodLink RX2 157 yX1_passSlot, Cond.instanceMethod yX1_passSlot, Cond.selects RX1 yX1_passSlot yX1_passSlot, Cond.code yX1_passSlot cX1_passSlot 4 none, Cond.fieldLink RX1 9 "PhaseConverter$Phase" "current" "I", Cond.fieldLink RX1 24 "PhaseConverter$Phase" "limitEvents" "I", Cond.fieldLink RX1 21 "PhaseConverter$Phase" "onSlots" "I", Cond.methodLink RX2 119 yX2_moveVoltage, Cond.instanceMethod yX2_moveVoltage, Cond.selects RX2 yX2_moveVoltage yX2_moveVoltage, Cond.code yX2_moveVoltage cX2_moveVoltage 3 none]
def wsX4_carryOut_r6 : List Cond := [Cond.constant RX2 161 (40000), Cond.methodLink RX4 229 yX0_keep, Cond.instanceMethod yX0_keep, Cond.selects RX0 yX0_keep yX0_keep, Cond.initialized RX0, Cond.code yX0_keep cX0_keep 4 none, Cond.fieldLink RX0 19 "PhaseConverter$History" "newest" "I", Cond.fieldLink RX0 15 "PhaseConverter$History" "size" "I", Cond.methodLink RX0 22 Lib.Math.min.name, Cond.fieldLink RX0 9 "PhaseConverter$History" "parts" "[I", Cond.fieldLink RX0 28 "PhaseConverter$Plant" "voltage" "I", Cond.fieldLink RX0 33 "PhaseConverter$Plant" "meanCurrent" "I", Cond.fieldLink RX0 40 "PhaseConverter$Plant" "active" "I", Cond.fieldLink RX0 43 "PhaseConverter$Plant" "mode" "I", Cond.methodLink RX0 36 yX2_ripple, Cond.instanceMethod yX2_ripple, Cond.selects RX2 yX2_ripple yX2_ripple, Cond.code yX2_ripple cX2_ripple 1 (some .int), Cond.methodLink RX4 233 yX4_settingOf, Cond.static yX4_settingOf, Cond.code yX4_settingOf cX4_settingOf 1 (some .int), Cond.methodLink RX4 52 yX4_isSetting, Cond.static yX4_isSetting, Cond.code yX4_isSetting cX4_isSetting 1 (some .boolean)]
def wsX4_carryOut : List Cond := .code yX4_carryOut cX4_carryOut 4 none :: ((wsX4_carryOut_r1 ++ (wsX4_carryOut_r2 ++ (wsX4_carryOut_r3 ++ (wsX4_carryOut_r4 ++ (wsX4_carryOut_r5 ++ wsX4_carryOut_r6))))) ++ wsX40 ++ wsX20 ++ wsX10 ++ wsX00)
def wsX4_play_r1 : List Cond := [Cond.classLink RX4 35 "java/lang/IllegalArgumentException", Cond.initialized "java/lang/IllegalArgumentException", Cond.fieldLink RX4 31 "PhaseConverter" "program" "LPhaseConverter$Program;", Cond.fieldLink RX4 112 "PhaseConverter$Program" "length" "I", Cond.methodLink RX4 119 yX3_isComplete, Cond.instanceMethod yX3_isComplete, Cond.selects RX3 yX3_isComplete yX3_isComplete, Cond.initialized RX3, Cond.code yX3_isComplete cX3_isComplete 3 (some .boolean), Cond.fieldLink RX3 15 "PhaseConverter$Program" "length" "I", Cond.methodLink RX3 19 yX3_codeAt, Cond.instanceMethod yX3_codeAt, Cond.selects RX3 yX3_codeAt yX3_codeAt, Cond.code yX3_codeAt cX3_codeAt 2 (some .int), Cond.fieldLink RX3 9 "PhaseConverter$Program" "codes" "[I", Cond.methodLink RX3 23 yX3_stateAfter, Cond.static yX3_stateAfter, Cond.code yX3_stateAfter cX3_stateAfter 2 (some .int), Cond.methodLink RX3 27 yX3_stateAfterLetter, Cond.static yX3_stateAfterLetter, Cond.code yX3_stateAfterLetter cX3_stateAfterLetter 1 (some .int), Cond.static yX4_isDigit, Cond.initialized RX4, Cond.code yX4_isDigit cX4_isDigit 1 (some .boolean)]
def wsX4_play_r2 : List Cond := [Cond.methodLink RX4 124 yX3_codeAt, Cond.methodLink RX4 128 yX4_isPossible, Cond.instanceMethod yX4_isPossible, Cond.selects RX4 yX4_isPossible yX4_isPossible, Cond.code yX4_isPossible cX4_isPossible 3 (some .boolean), Cond.fieldLink RX4 14 "PhaseConverter" "plant" "LPhaseConverter$Plant;", Cond.methodLink RX4 71 yX2_runs, Cond.instanceMethod yX2_runs, Cond.selects RX2 yX2_runs yX2_runs, Cond.initialized RX2, Cond.code yX2_runs cX2_runs 1 (some .boolean), Cond.fieldLink RX2 46 "PhaseConverter$Plant" "mode" "I", Cond.methodLink RX4 92 yX4_isRunLength, Cond.static yX4_isRunLength, Cond.code yX4_isRunLength cX4_isRunLength 1 (some .boolean), Cond.methodLink RX4 97 yX4_hasRoomFor, Cond.instanceMethod yX4_hasRoomFor, Cond.selects RX4 yX4_hasRoomFor yX4_hasRoomFor, Cond.code yX4_hasRoomFor cX4_hasRoomFor 2 (some .boolean), Cond.fieldLink RX4 222 "PhaseConverter$Plant" "cycles" "I", Cond.constant RX4 225 (100000), Cond.methodLink RX4 233 yX4_settingOf, Cond.static yX4_settingOf, Cond.code yX4_settingOf cX4_settingOf 1 (some .int)]
def wsX4_play_r3 : List Cond := [Cond.methodLink RX4 61 yX4_fits, Cond.static yX4_fits, Cond.code yX4_fits cX4_fits 2 (some .boolean), Cond.fieldLink RX4 216 "PhaseConverter" "LEAST" "[I", Cond.fieldLink RX4 219 "PhaseConverter" "GREATEST" "[I", Cond.methodLink RX4 52 yX4_isSetting, Cond.static yX4_isSetting, Cond.code yX4_isSetting cX4_isSetting 1 (some .boolean), Cond.methodLink RX4 131 yX4_carryOut, Cond.instanceMethod yX4_carryOut, Cond.selects RX4 yX4_carryOut yX4_carryOut, Cond.code yX4_carryOut cX4_carryOut 4 none, Cond.fieldLink RX4 67 "PhaseConverter$Plant" "settings" "[I", Cond.methodLink RX4 80 yX2_softStart, Cond.instanceMethod yX2_softStart, Cond.selects RX2 yX2_softStart yX2_softStart, Cond.code yX2_softStart cX2_softStart 2 none, Cond.fieldLink RX2 49 "PhaseConverter$Plant" "voltage" "I", Cond.fieldLink RX2 52 "PhaseConverter$Plant" "presentTarget" "I", Cond.fieldLink RX2 55 "PhaseConverter$Plant" "integral" "I", Cond.fieldLink RX2 61 "PhaseConverter$Plant" "addingCount" "I", Cond.fieldLink RX2 64 "PhaseConverter$Plant" "sheddingCount" "I", Cond.fieldLink RX2 30 "PhaseConverter$Plant" "phaseCount" "I", Cond.fieldLink RX2 34 "PhaseConverter$Plant" "active" "I"]
def wsX4_play_r4 : List Cond := [Cond.fieldLink RX2 25 "PhaseConverter$Plant" "phases" "[LPhaseConverter$Phase;", Cond.fieldLink RX2 89 "PhaseConverter$Phase" "rest" "I", Cond.methodLink RX4 89 yX2_halt, Cond.instanceMethod yX2_halt, Cond.selects RX2 yX2_halt yX2_halt, Cond.code yX2_halt cX2_halt 3 none, Cond.fieldLink RX2 92 "PhaseConverter$Phase" "onTime" "I", Cond.methodLink RX4 102 yX4_passCycles, Cond.instanceMethod yX4_passCycles, Cond.selects RX4 yX4_passCycles yX4_passCycles, Cond.code yX4_passCycles cX4_passCycles 4 none, Cond.fieldLink RX4 24 "PhaseConverter" "history" "LPhaseConverter$History;", Cond.methodLink RX4 226 yX2_limitEvents, Cond.instanceMethod yX2_limitEvents, Cond.selects RX2 yX2_limitEvents yX2_limitEvents, Cond.code yX2_limitEvents cX2_limitEvents 3 (some .int), Cond.fieldLink RX2 162 "PhaseConverter$Phase" "limitEvents" "I", Cond.methodLink RX4 176 yX2_passCycle, Cond.instanceMethod yX2_passCycle, Cond.selects RX2 yX2_passCycle yX2_passCycle, Cond.code yX2_passCycle cX2_passCycle 4 none, Cond.fieldLink RX2 18 "PhaseConverter$Plant" "settings" "[I", Cond.fieldLink RX2 73 "PhaseConverter$Plant" "leastVoltage" "I", Cond.methodLink RX2 122 Lib.Math.min.name]
def wsX4_play_r5 : List Cond := [Cond.static Lib.Math.min.name, Cond.initialized "java/lang/Math", Cond.code Lib.Math.min.name Lib.Math.min.code 2 (some .int), Cond.fieldLink RX2 76 "PhaseConverter$Plant" "greatestVoltage" "I", Cond.methodLink RX2 128 Lib.Math.max.name, Cond.static Lib.Math.max.name, Cond.code Lib.Math.max.name Lib.Math.max.code 2 (some .int), Cond.fieldLink RX2 70 "PhaseConverter$Plant" "meanCurrent" "I", Cond.fieldLink RX2 67 "PhaseConverter$Plant" "cycles" "I", Cond.methodLink RX2 95 yX2_runs, Cond.methodLink RX2 99 yX2_halt, Cond.methodLink RX2 103 yX2_moveTarget, Cond.instanceMethod yX2_moveTarget, Cond.selects RX2 yX2_moveTarget yX2_moveTarget, Cond.code yX2_moveTarget cX2_moveTarget 2 none, Cond.methodLink RX2 106 yX2_regulate, Cond.instanceMethod yX2_regulate, Cond.selects RX2 yX2_regulate yX2_regulate, Cond.code yX2_regulate cX2_regulate 5 none, Cond.constant RX2 131 (-100000), Cond.constant RX2 132 (100000), Cond.fieldLink RX2 58 "PhaseConverter$Plant" "duty" "I", Cond.static yX4_clamp, Cond.code yX4_clamp cX4_clamp 3 (some .int)]
def wsX4_play_r6 : List Cond := [Cond.static yX4_quotient, Cond.code yX4_quotient cX4_quotient 2 (some .int), Cond.methodLink RX2 109 yX2_adaptPhases, Cond.instanceMethod yX2_adaptPhases, Cond.selects RX2 yX2_adaptPhases yX2_adaptPhases, Cond.code yX2_adaptPhases cX2_adaptPhases 3 none, Cond.methodLink RX2 140 yX2_changeActive, Cond.instanceMethod yX2_changeActive, Cond.selects RX2 yX2_changeActive yX2_changeActive, Cond.code yX2_changeActive cX2_changeActive 2 none, Cond.fieldLink RX2 82 "PhaseConverter$Plant" "changes" "I", Cond.methodLink RX2 112 yX2_beginPulses, Cond.instanceMethod yX2_beginPulses, Cond.selects RX2 yX2_beginPulses yX2_beginPulses, Cond.code yX2_beginPulses cX2_beginPulses 3 none, Cond.methodLink RX2 143 yX2_beginPulse, Cond.instanceMethod yX2_beginPulse, Cond.selects RX2 yX2_beginPulse yX2_beginPulse, Cond.code yX2_beginPulse cX2_beginPulse 5 none, Cond.fieldLink RX2 149 "PhaseConverter$Phase" "current" "I", Cond.methodLink RX2 146 yX1_skipPulse, Cond.instanceMethod yX1_skipPulse, Cond.selects RX1 yX1_skipPulse yX1_skipPulse, Cond.initialized RX1]
def wsX4_play_r7 : List Cond := [Cond.code yX1_skipPulse cX1_skipPulse 1 none, Cond.fieldLink RX1 15 "PhaseConverter$Phase" "onTime" "I", Cond.fieldLink RX1 27 "PhaseConverter$Phase" "skipped" "I", Cond.methodLink RX2 152 yX2_activeCurrents, Cond.instanceMethod yX2_activeCurrents, Cond.selects RX2 yX2_activeCurrents yX2_activeCurrents, Cond.code yX2_activeCurrents cX2_activeCurrents 3 (some .int), Cond.methodLink RX2 155 yX1_beginPulse, Cond.instanceMethod yX1_beginPulse, Cond.selects RX1 yX1_beginPulse yX1_beginPulse, Cond.code yX1_beginPulse cX1_beginPulse 2 none, Cond.fieldLink RX1 18 "PhaseConverter$Phase" "rest" "I", Cond.fieldLink RX1 30 "PhaseConverter$Phase" "pulses" "I", Cond.methodLink RX2 115 yX2_moveCurrents, Cond.instanceMethod yX2_moveCurrents, Cond.selects RX2 yX2_moveCurrents yX2_moveCurrents, Cond.code yX2_moveCurrents cX2_moveCurrents 7 (some .int), Cond.fieldLink RX2 79 "PhaseConverter$Plant" "peakCurrent" "I", Cond.methodLink RX2 157 yX1_passSlot, Cond.instanceMethod yX1_passSlot, Cond.selects RX1 yX1_passSlot yX1_passSlot, Cond.code yX1_passSlot cX1_passSlot 4 none, Cond.fieldLink RX1 9 "PhaseConverter$Phase" "current" "I", Cond.fieldLink RX1 24 "PhaseConverter$Phase" "limitEvents" "I"]
def wsX4_play_r8 : List Cond := [Cond.fieldLink RX1 21 "PhaseConverter$Phase" "onSlots" "I", Cond.methodLink RX2 119 yX2_moveVoltage, Cond.instanceMethod yX2_moveVoltage, Cond.selects RX2 yX2_moveVoltage yX2_moveVoltage, Cond.code yX2_moveVoltage cX2_moveVoltage 3 none, Cond.constant RX2 161 (40000), Cond.methodLink RX4 229 yX0_keep, Cond.instanceMethod yX0_keep, Cond.selects RX0 yX0_keep yX0_keep, Cond.initialized RX0, Cond.code yX0_keep cX0_keep 4 none, Cond.fieldLink RX0 19 "PhaseConverter$History" "newest" "I", Cond.fieldLink RX0 15 "PhaseConverter$History" "size" "I", Cond.methodLink RX0 22 Lib.Math.min.name, Cond.fieldLink RX0 9 "PhaseConverter$History" "parts" "[I", Cond.fieldLink RX0 28 "PhaseConverter$Plant" "voltage" "I", Cond.fieldLink RX0 33 "PhaseConverter$Plant" "meanCurrent" "I", Cond.fieldLink RX0 40 "PhaseConverter$Plant" "active" "I", Cond.fieldLink RX0 43 "PhaseConverter$Plant" "mode" "I", Cond.methodLink RX0 36 yX2_ripple, Cond.instanceMethod yX2_ripple, Cond.selects RX2 yX2_ripple yX2_ripple, Cond.code yX2_ripple cX2_ripple 1 (some .int), Cond.methodLink RX4 135 yX4_isDigit]
def wsX4_play : List Cond := .code yX4_play cX4_play 7 (some .int) :: ((wsX4_play_r1 ++ (wsX4_play_r2 ++ (wsX4_play_r3 ++ (wsX4_play_r4 ++ (wsX4_play_r5 ++ (wsX4_play_r6 ++ (wsX4_play_r7 ++ wsX4_play_r8))))))) ++ wsX40 ++ wsX30 ++ wsX20 ++ wsX10 ++ wsX00 ++ (vx_atS RX4 39 "java/lang/IllegalArgumentException" ["java/lang/RuntimeException", "java/lang/Exception"]).filter goodWord)
def wsX4_number_r1 : List Cond := [Cond.fieldLink RX4 24 "PhaseConverter" "history" "LPhaseConverter$History;", Cond.fieldLink RX4 156 "PhaseConverter$History" "size" "I", Cond.fieldLink RX4 14 "PhaseConverter" "plant" "LPhaseConverter$Plant;", Cond.methodLink RX4 236 yX2_number, Cond.instanceMethod yX2_number, Cond.selects RX2 yX2_number yX2_number, Cond.initialized RX2, Cond.code yX2_number cX2_number 2 (some .int), Cond.fieldLink RX2 46 "PhaseConverter$Plant" "mode" "I", Cond.fieldLink RX2 49 "PhaseConverter$Plant" "voltage" "I", Cond.fieldLink RX2 52 "PhaseConverter$Plant" "presentTarget" "I", Cond.fieldLink RX2 34 "PhaseConverter$Plant" "active" "I", Cond.fieldLink RX2 67 "PhaseConverter$Plant" "cycles" "I", Cond.fieldLink RX2 70 "PhaseConverter$Plant" "meanCurrent" "I", Cond.fieldLink RX2 55 "PhaseConverter$Plant" "integral" "I", Cond.fieldLink RX2 58 "PhaseConverter$Plant" "duty" "I", Cond.fieldLink RX2 79 "PhaseConverter$Plant" "peakCurrent" "I", Cond.fieldLink RX2 82 "PhaseConverter$Plant" "changes" "I", Cond.fieldLink RX2 30 "PhaseConverter$Plant" "phaseCount" "I", Cond.methodLink RX2 168 yX2_ripple, Cond.instanceMethod yX2_ripple, Cond.selects RX2 yX2_ripple yX2_ripple, Cond.code yX2_ripple cX2_ripple 1 (some .int), Cond.fieldLink RX2 76 "PhaseConverter$Plant" "greatestVoltage" "I"]
def wsX4_number_r2 : List Cond := [Cond.fieldLink RX2 73 "PhaseConverter$Plant" "leastVoltage" "I", Cond.methodLink RX2 171 yX2_limitEvents, Cond.instanceMethod yX2_limitEvents, Cond.selects RX2 yX2_limitEvents yX2_limitEvents, Cond.code yX2_limitEvents cX2_limitEvents 3 (some .int), Cond.fieldLink RX2 25 "PhaseConverter$Plant" "phases" "[LPhaseConverter$Phase;", Cond.fieldLink RX2 162 "PhaseConverter$Phase" "limitEvents" "I", Cond.methodLink RX2 173 yX2_skippedPulses, Cond.instanceMethod yX2_skippedPulses, Cond.selects RX2 yX2_skippedPulses yX2_skippedPulses, Cond.code yX2_skippedPulses cX2_skippedPulses 3 (some .int), Cond.fieldLink RX2 165 "PhaseConverter$Phase" "skipped" "I"]
def wsX4_number : List Cond := .code yX4_number cX4_number 2 (some .int) :: ((wsX4_number_r1 ++ wsX4_number_r2) ++ wsX40 ++ wsX00 ++ wsX20 ++ wsX10)
def wsX4_count_r1 : List Cond := [Cond.classLink RX4 35 "java/lang/IllegalArgumentException", Cond.initialized "java/lang/IllegalArgumentException", Cond.methodLink RX4 140 yX4_number, Cond.instanceMethod yX4_number, Cond.selects RX4 yX4_number yX4_number, Cond.initialized RX4, Cond.code yX4_number cX4_number 2 (some .int), Cond.fieldLink RX4 24 "PhaseConverter" "history" "LPhaseConverter$History;", Cond.fieldLink RX4 156 "PhaseConverter$History" "size" "I", Cond.fieldLink RX4 14 "PhaseConverter" "plant" "LPhaseConverter$Plant;", Cond.methodLink RX4 236 yX2_number, Cond.instanceMethod yX2_number, Cond.selects RX2 yX2_number yX2_number, Cond.initialized RX2, Cond.code yX2_number cX2_number 2 (some .int), Cond.fieldLink RX2 46 "PhaseConverter$Plant" "mode" "I", Cond.fieldLink RX2 49 "PhaseConverter$Plant" "voltage" "I", Cond.fieldLink RX2 52 "PhaseConverter$Plant" "presentTarget" "I", Cond.fieldLink RX2 34 "PhaseConverter$Plant" "active" "I", Cond.fieldLink RX2 67 "PhaseConverter$Plant" "cycles" "I", Cond.fieldLink RX2 70 "PhaseConverter$Plant" "meanCurrent" "I", Cond.fieldLink RX2 55 "PhaseConverter$Plant" "integral" "I", Cond.fieldLink RX2 58 "PhaseConverter$Plant" "duty" "I", Cond.fieldLink RX2 79 "PhaseConverter$Plant" "peakCurrent" "I"]
def wsX4_count_r2 : List Cond := [Cond.fieldLink RX2 82 "PhaseConverter$Plant" "changes" "I", Cond.fieldLink RX2 30 "PhaseConverter$Plant" "phaseCount" "I", Cond.methodLink RX2 168 yX2_ripple, Cond.instanceMethod yX2_ripple, Cond.selects RX2 yX2_ripple yX2_ripple, Cond.code yX2_ripple cX2_ripple 1 (some .int), Cond.fieldLink RX2 76 "PhaseConverter$Plant" "greatestVoltage" "I", Cond.fieldLink RX2 73 "PhaseConverter$Plant" "leastVoltage" "I", Cond.methodLink RX2 171 yX2_limitEvents, Cond.instanceMethod yX2_limitEvents, Cond.selects RX2 yX2_limitEvents yX2_limitEvents, Cond.code yX2_limitEvents cX2_limitEvents 3 (some .int), Cond.fieldLink RX2 25 "PhaseConverter$Plant" "phases" "[LPhaseConverter$Phase;", Cond.fieldLink RX2 162 "PhaseConverter$Phase" "limitEvents" "I", Cond.methodLink RX2 173 yX2_skippedPulses, Cond.instanceMethod yX2_skippedPulses, Cond.selects RX2 yX2_skippedPulses yX2_skippedPulses, Cond.code yX2_skippedPulses cX2_skippedPulses 3 (some .int), Cond.fieldLink RX2 165 "PhaseConverter$Phase" "skipped" "I"]
def wsX4_count : List Cond := .code yX4_count cX4_count 2 (some .int) :: ((wsX4_count_r1 ++ wsX4_count_r2) ++ wsX40 ++ wsX00 ++ wsX20 ++ wsX10 ++ (vx_atS RX4 39 "java/lang/IllegalArgumentException" ["java/lang/RuntimeException", "java/lang/Exception"]).filter goodWord)
def wsX4_phase : List Cond := .code yX4_phase cX4_phase 3 (some .int) :: ([.classLink RX4 56 "java/lang/IndexOutOfBoundsException", .initialized "java/lang/IndexOutOfBoundsException", .classLink RX4 35 "java/lang/IllegalArgumentException", .initialized "java/lang/IllegalArgumentException", .fieldLink RX4 14 "PhaseConverter" "plant" "LPhaseConverter$Plant;", .fieldLink RX4 42 "PhaseConverter$Plant" "phaseCount" "I", .fieldLink RX4 143 "PhaseConverter$Plant" "phases" "[LPhaseConverter$Phase;", .methodLink RX4 151 yX1_property, .instanceMethod yX1_property, .selects RX1 yX1_property yX1_property, .initialized RX1, .code yX1_property cX1_property 2 (some .int), .fieldLink RX1 9 "PhaseConverter$Phase" "current" "I", .fieldLink RX1 15 "PhaseConverter$Phase" "onTime" "I", .fieldLink RX1 18 "PhaseConverter$Phase" "rest" "I", .fieldLink RX1 21 "PhaseConverter$Phase" "onSlots" "I", .fieldLink RX1 24 "PhaseConverter$Phase" "limitEvents" "I", .fieldLink RX1 27 "PhaseConverter$Phase" "skipped" "I", .fieldLink RX1 30 "PhaseConverter$Phase" "pulses" "I"] ++ wsX40 ++ wsX20 ++ wsX10 ++ (vx_atS RX4 60 "java/lang/IndexOutOfBoundsException" ["java/lang/RuntimeException", "java/lang/Exception"]).filter goodWord ++ (vx_atS RX4 39 "java/lang/IllegalArgumentException" ["java/lang/RuntimeException", "java/lang/Exception"]).filter goodWord)
def wsX4_record : List Cond := .code yX4_record cX4_record 3 (some .int) :: ([.classLink RX4 56 "java/lang/IndexOutOfBoundsException", .initialized "java/lang/IndexOutOfBoundsException", .classLink RX4 35 "java/lang/IllegalArgumentException", .initialized "java/lang/IllegalArgumentException", .fieldLink RX4 24 "PhaseConverter" "history" "LPhaseConverter$History;", .fieldLink RX4 156 "PhaseConverter$History" "size" "I", .methodLink RX4 163 yX0_part, .instanceMethod yX0_part, .selects RX0 yX0_part yX0_part, .initialized RX0, .code yX0_part cX0_part 5 (some .int), .fieldLink RX0 19 "PhaseConverter$History" "newest" "I", .fieldLink RX0 9 "PhaseConverter$History" "parts" "[I"] ++ wsX40 ++ wsX00 ++ (vx_atS RX4 60 "java/lang/IndexOutOfBoundsException" ["java/lang/RuntimeException", "java/lang/Exception"]).filter goodWord ++ (vx_atS RX4 39 "java/lang/IllegalArgumentException" ["java/lang/RuntimeException", "java/lang/Exception"]).filter goodWord)
def wsX4_beginTrial_r1 : List Cond := [Cond.fieldLink RX4 18 "PhaseConverter" "trial" "LPhaseConverter$Plant;", Cond.fieldLink RX4 14 "PhaseConverter" "plant" "LPhaseConverter$Plant;", Cond.methodLink RX4 237 yX2_copyFrom, Cond.instanceMethod yX2_copyFrom, Cond.selects RX2 yX2_copyFrom yX2_copyFrom, Cond.initialized RX2, Cond.code yX2_copyFrom cX2_copyFrom 3 none, Cond.fieldLink RX2 18 "PhaseConverter$Plant" "settings" "[I", Cond.methodLink RX2 37 arraycopyName, Cond.native arraycopyName, Cond.static arraycopyName, Cond.initialized "java/lang/System", Cond.fieldLink RX2 25 "PhaseConverter$Plant" "phases" "[LPhaseConverter$Phase;", Cond.fieldLink RX2 30 "PhaseConverter$Plant" "phaseCount" "I", Cond.fieldLink RX2 34 "PhaseConverter$Plant" "active" "I", Cond.fieldLink RX2 46 "PhaseConverter$Plant" "mode" "I", Cond.fieldLink RX2 49 "PhaseConverter$Plant" "voltage" "I", Cond.fieldLink RX2 52 "PhaseConverter$Plant" "presentTarget" "I", Cond.fieldLink RX2 55 "PhaseConverter$Plant" "integral" "I", Cond.fieldLink RX2 58 "PhaseConverter$Plant" "duty" "I", Cond.fieldLink RX2 61 "PhaseConverter$Plant" "addingCount" "I", Cond.fieldLink RX2 64 "PhaseConverter$Plant" "sheddingCount" "I", Cond.fieldLink RX2 67 "PhaseConverter$Plant" "cycles" "I", Cond.fieldLink RX2 70 "PhaseConverter$Plant" "meanCurrent" "I"]
def wsX4_beginTrial_r2 : List Cond := [Cond.fieldLink RX2 73 "PhaseConverter$Plant" "leastVoltage" "I", Cond.fieldLink RX2 76 "PhaseConverter$Plant" "greatestVoltage" "I", Cond.fieldLink RX2 79 "PhaseConverter$Plant" "peakCurrent" "I", Cond.fieldLink RX2 82 "PhaseConverter$Plant" "changes" "I", Cond.methodLink RX2 85 yX1_copyFrom, Cond.instanceMethod yX1_copyFrom, Cond.selects RX1 yX1_copyFrom yX1_copyFrom, Cond.initialized RX1, Cond.code yX1_copyFrom cX1_copyFrom 2 none, Cond.fieldLink RX1 9 "PhaseConverter$Phase" "current" "I", Cond.fieldLink RX1 15 "PhaseConverter$Phase" "onTime" "I", Cond.fieldLink RX1 18 "PhaseConverter$Phase" "rest" "I", Cond.fieldLink RX1 21 "PhaseConverter$Phase" "onSlots" "I", Cond.fieldLink RX1 24 "PhaseConverter$Phase" "limitEvents" "I", Cond.fieldLink RX1 27 "PhaseConverter$Phase" "skipped" "I", Cond.fieldLink RX1 30 "PhaseConverter$Phase" "pulses" "I"]
def wsX4_beginTrial : List Cond := .code yX4_beginTrial cX4_beginTrial 1 none :: ((wsX4_beginTrial_r1 ++ wsX4_beginTrial_r2) ++ wsX40 ++ wsX20 ++ wsX10)
def wsX4_ifLoaded_r1 : List Cond := [Cond.classLink RX4 35 "java/lang/IllegalArgumentException", Cond.initialized "java/lang/IllegalArgumentException", Cond.fieldLink RX4 18 "PhaseConverter" "trial" "LPhaseConverter$Plant;", Cond.fieldLink RX4 67 "PhaseConverter$Plant" "settings" "[I", Cond.fieldLink RX4 172 "PhaseConverter$Plant" "peakCurrent" "I", Cond.constant RX4 175 (40000), Cond.fieldLink RX4 179 "PhaseConverter$Plant" "leastVoltage" "I", Cond.methodLink RX4 182 Lib.Math.min.name, Cond.static Lib.Math.min.name, Cond.initialized "java/lang/Math", Cond.code Lib.Math.min.name Lib.Math.min.code 2 (some .int), Cond.fieldLink RX4 187 "PhaseConverter$Plant" "greatestVoltage" "I", Cond.methodLink RX4 190 Lib.Math.max.name, Cond.static Lib.Math.max.name, Cond.code Lib.Math.max.name Lib.Math.max.code 2 (some .int), Cond.fieldLink RX4 83 "PhaseConverter$Plant" "voltage" "I", Cond.fieldLink RX4 86 "PhaseConverter$Plant" "mode" "I", Cond.fieldLink RX4 193 "PhaseConverter$Plant" "active" "I", Cond.methodLink RX4 61 yX4_fits, Cond.static yX4_fits, Cond.initialized RX4, Cond.code yX4_fits cX4_fits 2 (some .boolean), Cond.fieldLink RX4 216 "PhaseConverter" "LEAST" "[I", Cond.fieldLink RX4 219 "PhaseConverter" "GREATEST" "[I"]
def wsX4_ifLoaded_r2 : List Cond := [Cond.methodLink RX4 52 yX4_isSetting, Cond.static yX4_isSetting, Cond.code yX4_isSetting cX4_isSetting 1 (some .boolean), Cond.methodLink RX4 169 yX4_beginTrial, Cond.instanceMethod yX4_beginTrial, Cond.selects RX4 yX4_beginTrial yX4_beginTrial, Cond.code yX4_beginTrial cX4_beginTrial 1 none, Cond.fieldLink RX4 14 "PhaseConverter" "plant" "LPhaseConverter$Plant;", Cond.methodLink RX4 237 yX2_copyFrom, Cond.instanceMethod yX2_copyFrom, Cond.selects RX2 yX2_copyFrom yX2_copyFrom, Cond.initialized RX2, Cond.code yX2_copyFrom cX2_copyFrom 3 none, Cond.fieldLink RX2 18 "PhaseConverter$Plant" "settings" "[I", Cond.methodLink RX2 37 arraycopyName, Cond.native arraycopyName, Cond.static arraycopyName, Cond.initialized "java/lang/System", Cond.fieldLink RX2 25 "PhaseConverter$Plant" "phases" "[LPhaseConverter$Phase;", Cond.fieldLink RX2 30 "PhaseConverter$Plant" "phaseCount" "I", Cond.fieldLink RX2 34 "PhaseConverter$Plant" "active" "I", Cond.fieldLink RX2 46 "PhaseConverter$Plant" "mode" "I", Cond.fieldLink RX2 49 "PhaseConverter$Plant" "voltage" "I", Cond.fieldLink RX2 52 "PhaseConverter$Plant" "presentTarget" "I"]
def wsX4_ifLoaded_r3 : List Cond := [Cond.fieldLink RX2 55 "PhaseConverter$Plant" "integral" "I", Cond.fieldLink RX2 58 "PhaseConverter$Plant" "duty" "I", Cond.fieldLink RX2 61 "PhaseConverter$Plant" "addingCount" "I", Cond.fieldLink RX2 64 "PhaseConverter$Plant" "sheddingCount" "I", Cond.fieldLink RX2 67 "PhaseConverter$Plant" "cycles" "I", Cond.fieldLink RX2 70 "PhaseConverter$Plant" "meanCurrent" "I", Cond.fieldLink RX2 73 "PhaseConverter$Plant" "leastVoltage" "I", Cond.fieldLink RX2 76 "PhaseConverter$Plant" "greatestVoltage" "I", Cond.fieldLink RX2 79 "PhaseConverter$Plant" "peakCurrent" "I", Cond.fieldLink RX2 82 "PhaseConverter$Plant" "changes" "I", Cond.methodLink RX2 85 yX1_copyFrom, Cond.instanceMethod yX1_copyFrom, Cond.selects RX1 yX1_copyFrom yX1_copyFrom, Cond.initialized RX1, Cond.code yX1_copyFrom cX1_copyFrom 2 none, Cond.fieldLink RX1 9 "PhaseConverter$Phase" "current" "I", Cond.fieldLink RX1 15 "PhaseConverter$Phase" "onTime" "I", Cond.fieldLink RX1 18 "PhaseConverter$Phase" "rest" "I", Cond.fieldLink RX1 21 "PhaseConverter$Phase" "onSlots" "I", Cond.fieldLink RX1 24 "PhaseConverter$Phase" "limitEvents" "I", Cond.fieldLink RX1 27 "PhaseConverter$Phase" "skipped" "I", Cond.fieldLink RX1 30 "PhaseConverter$Phase" "pulses" "I", Cond.methodLink RX4 176 yX2_passCycle, Cond.instanceMethod yX2_passCycle]
def wsX4_ifLoaded_r4 : List Cond := [Cond.selects RX2 yX2_passCycle yX2_passCycle, Cond.code yX2_passCycle cX2_passCycle 4 none, Cond.methodLink RX2 122 Lib.Math.min.name, Cond.methodLink RX2 128 Lib.Math.max.name, Cond.methodLink RX2 95 yX2_runs, Cond.instanceMethod yX2_runs, Cond.selects RX2 yX2_runs yX2_runs, Cond.code yX2_runs cX2_runs 1 (some .boolean), Cond.methodLink RX2 99 yX2_halt, Cond.instanceMethod yX2_halt, Cond.selects RX2 yX2_halt yX2_halt, Cond.code yX2_halt cX2_halt 3 none, Cond.fieldLink RX2 92 "PhaseConverter$Phase" "onTime" "I", Cond.methodLink RX2 103 yX2_moveTarget, Cond.instanceMethod yX2_moveTarget, Cond.selects RX2 yX2_moveTarget yX2_moveTarget, Cond.code yX2_moveTarget cX2_moveTarget 2 none, Cond.methodLink RX2 106 yX2_regulate, Cond.instanceMethod yX2_regulate, Cond.selects RX2 yX2_regulate yX2_regulate, Cond.code yX2_regulate cX2_regulate 5 none, Cond.constant RX2 131 (-100000), Cond.constant RX2 132 (100000), Cond.static yX4_clamp]
def wsX4_ifLoaded_r5 : List Cond := [Cond.code yX4_clamp cX4_clamp 3 (some .int), Cond.static yX4_quotient, Cond.code yX4_quotient cX4_quotient 2 (some .int), Cond.methodLink RX2 109 yX2_adaptPhases, Cond.instanceMethod yX2_adaptPhases, Cond.selects RX2 yX2_adaptPhases yX2_adaptPhases, Cond.code yX2_adaptPhases cX2_adaptPhases 3 none, Cond.methodLink RX2 140 yX2_changeActive, Cond.instanceMethod yX2_changeActive, Cond.selects RX2 yX2_changeActive yX2_changeActive, Cond.code yX2_changeActive cX2_changeActive 2 none, Cond.methodLink RX2 112 yX2_beginPulses, Cond.instanceMethod yX2_beginPulses, Cond.selects RX2 yX2_beginPulses yX2_beginPulses, Cond.code yX2_beginPulses cX2_beginPulses 3 none, Cond.methodLink RX2 143 yX2_beginPulse, Cond.instanceMethod yX2_beginPulse, Cond.selects RX2 yX2_beginPulse yX2_beginPulse, Cond.code yX2_beginPulse cX2_beginPulse 5 none, Cond.fieldLink RX2 149 "PhaseConverter$Phase" "current" "I", Cond.methodLink RX2 146 yX1_skipPulse, Cond.instanceMethod yX1_skipPulse, Cond.selects RX1 yX1_skipPulse yX1_skipPulse, Cond.code yX1_skipPulse cX1_skipPulse 1 none]
def wsX4_ifLoaded_r6 : List Cond := [Cond.methodLink RX2 152 yX2_activeCurrents, Cond.instanceMethod yX2_activeCurrents, Cond.selects RX2 yX2_activeCurrents yX2_activeCurrents, Cond.code yX2_activeCurrents cX2_activeCurrents 3 (some .int), Cond.methodLink RX2 155 yX1_beginPulse, Cond.instanceMethod yX1_beginPulse, Cond.selects RX1 yX1_beginPulse yX1_beginPulse, Cond.code yX1_beginPulse cX1_beginPulse 2 none, Cond.methodLink RX2 115 yX2_moveCurrents, Cond.instanceMethod yX2_moveCurrents, Cond.selects RX2 yX2_moveCurrents yX2_moveCurrents, Cond.code yX2_moveCurrents cX2_moveCurrents 7 (some .int), Cond.methodLink RX2 157 yX1_passSlot, Cond.instanceMethod yX1_passSlot, Cond.selects RX1 yX1_passSlot yX1_passSlot, Cond.code yX1_passSlot cX1_passSlot 4 none, Cond.methodLink RX2 119 yX2_moveVoltage, Cond.instanceMethod yX2_moveVoltage, Cond.selects RX2 yX2_moveVoltage yX2_moveVoltage, Cond.code yX2_moveVoltage cX2_moveVoltage 3 none, Cond.constant RX2 161 (40000)]
def wsX4_ifLoaded : List Cond := .code yX4_ifLoaded cX4_ifLoaded 7 (some .int) :: ((wsX4_ifLoaded_r1 ++ (wsX4_ifLoaded_r2 ++ (wsX4_ifLoaded_r3 ++ (wsX4_ifLoaded_r4 ++ (wsX4_ifLoaded_r5 ++ wsX4_ifLoaded_r6))))) ++ wsX40 ++ wsX20 ++ wsX10 ++ (vx_atS RX4 39 "java/lang/IllegalArgumentException" ["java/lang/RuntimeException", "java/lang/Exception"]).filter goodWord)
def wsX4_settles_r1 : List Cond := [Cond.classLink RX4 35 "java/lang/IllegalArgumentException", Cond.initialized "java/lang/IllegalArgumentException", Cond.fieldLink RX4 18 "PhaseConverter" "trial" "LPhaseConverter$Plant;", Cond.fieldLink RX4 67 "PhaseConverter$Plant" "settings" "[I", Cond.fieldLink RX4 83 "PhaseConverter$Plant" "voltage" "I", Cond.methodLink RX4 198 Lib.Math.abs.name, Cond.static Lib.Math.abs.name, Cond.initialized "java/lang/Math", Cond.code Lib.Math.abs.name Lib.Math.abs.code 1 (some .int), Cond.methodLink RX4 169 yX4_beginTrial, Cond.instanceMethod yX4_beginTrial, Cond.selects RX4 yX4_beginTrial yX4_beginTrial, Cond.initialized RX4, Cond.code yX4_beginTrial cX4_beginTrial 1 none, Cond.fieldLink RX4 14 "PhaseConverter" "plant" "LPhaseConverter$Plant;", Cond.methodLink RX4 237 yX2_copyFrom, Cond.instanceMethod yX2_copyFrom, Cond.selects RX2 yX2_copyFrom yX2_copyFrom, Cond.initialized RX2, Cond.code yX2_copyFrom cX2_copyFrom 3 none, Cond.fieldLink RX2 18 "PhaseConverter$Plant" "settings" "[I", Cond.methodLink RX2 37 arraycopyName, Cond.native arraycopyName, Cond.static arraycopyName]
def wsX4_settles_r2 : List Cond := [Cond.initialized "java/lang/System", Cond.fieldLink RX2 25 "PhaseConverter$Plant" "phases" "[LPhaseConverter$Phase;", Cond.fieldLink RX2 30 "PhaseConverter$Plant" "phaseCount" "I", Cond.fieldLink RX2 34 "PhaseConverter$Plant" "active" "I", Cond.fieldLink RX2 46 "PhaseConverter$Plant" "mode" "I", Cond.fieldLink RX2 49 "PhaseConverter$Plant" "voltage" "I", Cond.fieldLink RX2 52 "PhaseConverter$Plant" "presentTarget" "I", Cond.fieldLink RX2 55 "PhaseConverter$Plant" "integral" "I", Cond.fieldLink RX2 58 "PhaseConverter$Plant" "duty" "I", Cond.fieldLink RX2 61 "PhaseConverter$Plant" "addingCount" "I", Cond.fieldLink RX2 64 "PhaseConverter$Plant" "sheddingCount" "I", Cond.fieldLink RX2 67 "PhaseConverter$Plant" "cycles" "I", Cond.fieldLink RX2 70 "PhaseConverter$Plant" "meanCurrent" "I", Cond.fieldLink RX2 73 "PhaseConverter$Plant" "leastVoltage" "I", Cond.fieldLink RX2 76 "PhaseConverter$Plant" "greatestVoltage" "I", Cond.fieldLink RX2 79 "PhaseConverter$Plant" "peakCurrent" "I", Cond.fieldLink RX2 82 "PhaseConverter$Plant" "changes" "I", Cond.methodLink RX2 85 yX1_copyFrom, Cond.instanceMethod yX1_copyFrom, Cond.selects RX1 yX1_copyFrom yX1_copyFrom, Cond.initialized RX1, Cond.code yX1_copyFrom cX1_copyFrom 2 none, Cond.fieldLink RX1 9 "PhaseConverter$Phase" "current" "I", Cond.fieldLink RX1 15 "PhaseConverter$Phase" "onTime" "I"]
def wsX4_settles_r3 : List Cond := [Cond.fieldLink RX1 18 "PhaseConverter$Phase" "rest" "I", Cond.fieldLink RX1 21 "PhaseConverter$Phase" "onSlots" "I", Cond.fieldLink RX1 24 "PhaseConverter$Phase" "limitEvents" "I", Cond.fieldLink RX1 27 "PhaseConverter$Phase" "skipped" "I", Cond.fieldLink RX1 30 "PhaseConverter$Phase" "pulses" "I", Cond.methodLink RX4 176 yX2_passCycle, Cond.instanceMethod yX2_passCycle, Cond.selects RX2 yX2_passCycle yX2_passCycle, Cond.code yX2_passCycle cX2_passCycle 4 none, Cond.methodLink RX2 122 Lib.Math.min.name, Cond.static Lib.Math.min.name, Cond.code Lib.Math.min.name Lib.Math.min.code 2 (some .int), Cond.methodLink RX2 128 Lib.Math.max.name, Cond.static Lib.Math.max.name, Cond.code Lib.Math.max.name Lib.Math.max.code 2 (some .int), Cond.methodLink RX2 95 yX2_runs, Cond.instanceMethod yX2_runs, Cond.selects RX2 yX2_runs yX2_runs, Cond.code yX2_runs cX2_runs 1 (some .boolean), Cond.methodLink RX2 99 yX2_halt, Cond.instanceMethod yX2_halt, Cond.selects RX2 yX2_halt yX2_halt, Cond.code yX2_halt cX2_halt 3 none, Cond.fieldLink RX2 92 "PhaseConverter$Phase" "onTime" "I"]
def wsX4_settles_r4 : List Cond := [Cond.methodLink RX2 103 yX2_moveTarget, Cond.instanceMethod yX2_moveTarget, Cond.selects RX2 yX2_moveTarget yX2_moveTarget, Cond.code yX2_moveTarget cX2_moveTarget 2 none, Cond.methodLink RX2 106 yX2_regulate, Cond.instanceMethod yX2_regulate, Cond.selects RX2 yX2_regulate yX2_regulate, Cond.code yX2_regulate cX2_regulate 5 none, Cond.constant RX2 131 (-100000), Cond.constant RX2 132 (100000), Cond.static yX4_clamp, Cond.code yX4_clamp cX4_clamp 3 (some .int), Cond.static yX4_quotient, Cond.code yX4_quotient cX4_quotient 2 (some .int), Cond.methodLink RX2 109 yX2_adaptPhases, Cond.instanceMethod yX2_adaptPhases, Cond.selects RX2 yX2_adaptPhases yX2_adaptPhases, Cond.code yX2_adaptPhases cX2_adaptPhases 3 none, Cond.methodLink RX2 140 yX2_changeActive, Cond.instanceMethod yX2_changeActive, Cond.selects RX2 yX2_changeActive yX2_changeActive, Cond.code yX2_changeActive cX2_changeActive 2 none, Cond.methodLink RX2 112 yX2_beginPulses, Cond.instanceMethod yX2_beginPulses]
def wsX4_settles_r5 : List Cond := [Cond.selects RX2 yX2_beginPulses yX2_beginPulses, Cond.code yX2_beginPulses cX2_beginPulses 3 none, Cond.methodLink RX2 143 yX2_beginPulse, Cond.instanceMethod yX2_beginPulse, Cond.selects RX2 yX2_beginPulse yX2_beginPulse, Cond.code yX2_beginPulse cX2_beginPulse 5 none, Cond.fieldLink RX2 149 "PhaseConverter$Phase" "current" "I", Cond.methodLink RX2 146 yX1_skipPulse, Cond.instanceMethod yX1_skipPulse, Cond.selects RX1 yX1_skipPulse yX1_skipPulse, Cond.code yX1_skipPulse cX1_skipPulse 1 none, Cond.methodLink RX2 152 yX2_activeCurrents, Cond.instanceMethod yX2_activeCurrents, Cond.selects RX2 yX2_activeCurrents yX2_activeCurrents, Cond.code yX2_activeCurrents cX2_activeCurrents 3 (some .int), Cond.methodLink RX2 155 yX1_beginPulse, Cond.instanceMethod yX1_beginPulse, Cond.selects RX1 yX1_beginPulse yX1_beginPulse, Cond.code yX1_beginPulse cX1_beginPulse 2 none, Cond.methodLink RX2 115 yX2_moveCurrents, Cond.instanceMethod yX2_moveCurrents, Cond.selects RX2 yX2_moveCurrents yX2_moveCurrents, Cond.code yX2_moveCurrents cX2_moveCurrents 7 (some .int), Cond.methodLink RX2 157 yX1_passSlot]
def wsX4_settles_r6 : List Cond := [Cond.instanceMethod yX1_passSlot, Cond.selects RX1 yX1_passSlot yX1_passSlot, Cond.code yX1_passSlot cX1_passSlot 4 none, Cond.methodLink RX2 119 yX2_moveVoltage, Cond.instanceMethod yX2_moveVoltage, Cond.selects RX2 yX2_moveVoltage yX2_moveVoltage, Cond.code yX2_moveVoltage cX2_moveVoltage 3 none, Cond.constant RX2 161 (40000)]
def wsX4_settles : List Cond := .code yX4_settles cX4_settles 5 (some .int) :: ((wsX4_settles_r1 ++ (wsX4_settles_r2 ++ (wsX4_settles_r3 ++ (wsX4_settles_r4 ++ (wsX4_settles_r5 ++ wsX4_settles_r6))))) ++ wsX40 ++ wsX20 ++ wsX10 ++ (vx_atS RX4 39 "java/lang/IllegalArgumentException" ["java/lang/RuntimeException", "java/lang/Exception"]).filter goodWord)
def wsX4_holdsLevel_r1 : List Cond := [Cond.fieldLink RX4 18 "PhaseConverter" "trial" "LPhaseConverter$Plant;", Cond.fieldLink RX4 67 "PhaseConverter$Plant" "settings" "[I", Cond.fieldLink RX4 179 "PhaseConverter$Plant" "leastVoltage" "I", Cond.methodLink RX4 169 yX4_beginTrial, Cond.instanceMethod yX4_beginTrial, Cond.selects RX4 yX4_beginTrial yX4_beginTrial, Cond.initialized RX4, Cond.code yX4_beginTrial cX4_beginTrial 1 none, Cond.fieldLink RX4 14 "PhaseConverter" "plant" "LPhaseConverter$Plant;", Cond.methodLink RX4 237 yX2_copyFrom, Cond.instanceMethod yX2_copyFrom, Cond.selects RX2 yX2_copyFrom yX2_copyFrom, Cond.initialized RX2, Cond.code yX2_copyFrom cX2_copyFrom 3 none, Cond.fieldLink RX2 18 "PhaseConverter$Plant" "settings" "[I", Cond.methodLink RX2 37 arraycopyName, Cond.native arraycopyName, Cond.static arraycopyName, Cond.initialized "java/lang/System", Cond.fieldLink RX2 25 "PhaseConverter$Plant" "phases" "[LPhaseConverter$Phase;", Cond.fieldLink RX2 30 "PhaseConverter$Plant" "phaseCount" "I", Cond.fieldLink RX2 34 "PhaseConverter$Plant" "active" "I", Cond.fieldLink RX2 46 "PhaseConverter$Plant" "mode" "I", Cond.fieldLink RX2 49 "PhaseConverter$Plant" "voltage" "I"]
def wsX4_holdsLevel_r2 : List Cond := [Cond.fieldLink RX2 52 "PhaseConverter$Plant" "presentTarget" "I", Cond.fieldLink RX2 55 "PhaseConverter$Plant" "integral" "I", Cond.fieldLink RX2 58 "PhaseConverter$Plant" "duty" "I", Cond.fieldLink RX2 61 "PhaseConverter$Plant" "addingCount" "I", Cond.fieldLink RX2 64 "PhaseConverter$Plant" "sheddingCount" "I", Cond.fieldLink RX2 67 "PhaseConverter$Plant" "cycles" "I", Cond.fieldLink RX2 70 "PhaseConverter$Plant" "meanCurrent" "I", Cond.fieldLink RX2 73 "PhaseConverter$Plant" "leastVoltage" "I", Cond.fieldLink RX2 76 "PhaseConverter$Plant" "greatestVoltage" "I", Cond.fieldLink RX2 79 "PhaseConverter$Plant" "peakCurrent" "I", Cond.fieldLink RX2 82 "PhaseConverter$Plant" "changes" "I", Cond.methodLink RX2 85 yX1_copyFrom, Cond.instanceMethod yX1_copyFrom, Cond.selects RX1 yX1_copyFrom yX1_copyFrom, Cond.initialized RX1, Cond.code yX1_copyFrom cX1_copyFrom 2 none, Cond.fieldLink RX1 9 "PhaseConverter$Phase" "current" "I", Cond.fieldLink RX1 15 "PhaseConverter$Phase" "onTime" "I", Cond.fieldLink RX1 18 "PhaseConverter$Phase" "rest" "I", Cond.fieldLink RX1 21 "PhaseConverter$Phase" "onSlots" "I", Cond.fieldLink RX1 24 "PhaseConverter$Phase" "limitEvents" "I", Cond.fieldLink RX1 27 "PhaseConverter$Phase" "skipped" "I", Cond.fieldLink RX1 30 "PhaseConverter$Phase" "pulses" "I", Cond.methodLink RX4 176 yX2_passCycle]
def wsX4_holdsLevel_r3 : List Cond := [Cond.instanceMethod yX2_passCycle, Cond.selects RX2 yX2_passCycle yX2_passCycle, Cond.code yX2_passCycle cX2_passCycle 4 none, Cond.methodLink RX2 122 Lib.Math.min.name, Cond.static Lib.Math.min.name, Cond.initialized "java/lang/Math", Cond.code Lib.Math.min.name Lib.Math.min.code 2 (some .int), Cond.methodLink RX2 128 Lib.Math.max.name, Cond.static Lib.Math.max.name, Cond.code Lib.Math.max.name Lib.Math.max.code 2 (some .int), Cond.methodLink RX2 95 yX2_runs, Cond.instanceMethod yX2_runs, Cond.selects RX2 yX2_runs yX2_runs, Cond.code yX2_runs cX2_runs 1 (some .boolean), Cond.methodLink RX2 99 yX2_halt, Cond.instanceMethod yX2_halt, Cond.selects RX2 yX2_halt yX2_halt, Cond.code yX2_halt cX2_halt 3 none, Cond.fieldLink RX2 92 "PhaseConverter$Phase" "onTime" "I", Cond.methodLink RX2 103 yX2_moveTarget, Cond.instanceMethod yX2_moveTarget, Cond.selects RX2 yX2_moveTarget yX2_moveTarget, Cond.code yX2_moveTarget cX2_moveTarget 2 none, Cond.methodLink RX2 106 yX2_regulate]
def wsX4_holdsLevel_r4 : List Cond := [Cond.instanceMethod yX2_regulate, Cond.selects RX2 yX2_regulate yX2_regulate, Cond.code yX2_regulate cX2_regulate 5 none, Cond.constant RX2 131 (-100000), Cond.constant RX2 132 (100000), Cond.static yX4_clamp, Cond.code yX4_clamp cX4_clamp 3 (some .int), Cond.static yX4_quotient, Cond.code yX4_quotient cX4_quotient 2 (some .int), Cond.methodLink RX2 109 yX2_adaptPhases, Cond.instanceMethod yX2_adaptPhases, Cond.selects RX2 yX2_adaptPhases yX2_adaptPhases, Cond.code yX2_adaptPhases cX2_adaptPhases 3 none, Cond.methodLink RX2 140 yX2_changeActive, Cond.instanceMethod yX2_changeActive, Cond.selects RX2 yX2_changeActive yX2_changeActive, Cond.code yX2_changeActive cX2_changeActive 2 none, Cond.methodLink RX2 112 yX2_beginPulses, Cond.instanceMethod yX2_beginPulses, Cond.selects RX2 yX2_beginPulses yX2_beginPulses, Cond.code yX2_beginPulses cX2_beginPulses 3 none, Cond.methodLink RX2 143 yX2_beginPulse, Cond.instanceMethod yX2_beginPulse, Cond.selects RX2 yX2_beginPulse yX2_beginPulse]
def wsX4_holdsLevel_r5 : List Cond := [Cond.code yX2_beginPulse cX2_beginPulse 5 none, Cond.fieldLink RX2 149 "PhaseConverter$Phase" "current" "I", Cond.methodLink RX2 146 yX1_skipPulse, Cond.instanceMethod yX1_skipPulse, Cond.selects RX1 yX1_skipPulse yX1_skipPulse, Cond.code yX1_skipPulse cX1_skipPulse 1 none, Cond.methodLink RX2 152 yX2_activeCurrents, Cond.instanceMethod yX2_activeCurrents, Cond.selects RX2 yX2_activeCurrents yX2_activeCurrents, Cond.code yX2_activeCurrents cX2_activeCurrents 3 (some .int), Cond.methodLink RX2 155 yX1_beginPulse, Cond.instanceMethod yX1_beginPulse, Cond.selects RX1 yX1_beginPulse yX1_beginPulse, Cond.code yX1_beginPulse cX1_beginPulse 2 none, Cond.methodLink RX2 115 yX2_moveCurrents, Cond.instanceMethod yX2_moveCurrents, Cond.selects RX2 yX2_moveCurrents yX2_moveCurrents, Cond.code yX2_moveCurrents cX2_moveCurrents 7 (some .int), Cond.methodLink RX2 157 yX1_passSlot, Cond.instanceMethod yX1_passSlot, Cond.selects RX1 yX1_passSlot yX1_passSlot, Cond.code yX1_passSlot cX1_passSlot 4 none, Cond.methodLink RX2 119 yX2_moveVoltage, Cond.instanceMethod yX2_moveVoltage]
def wsX4_holdsLevel_r6 : List Cond := [Cond.selects RX2 yX2_moveVoltage yX2_moveVoltage, Cond.code yX2_moveVoltage cX2_moveVoltage 3 none, Cond.constant RX2 161 (40000)]
def wsX4_holdsLevel : List Cond := .code yX4_holdsLevel cX4_holdsLevel 4 (some .boolean) :: ((wsX4_holdsLevel_r1 ++ (wsX4_holdsLevel_r2 ++ (wsX4_holdsLevel_r3 ++ (wsX4_holdsLevel_r4 ++ (wsX4_holdsLevel_r5 ++ wsX4_holdsLevel_r6))))) ++ wsX40 ++ wsX20 ++ wsX10)
def wsX4_greatestLoad_r1 : List Cond := [Cond.classLink RX4 35 "java/lang/IllegalArgumentException", Cond.initialized "java/lang/IllegalArgumentException", Cond.constant RX4 175 (40000), Cond.methodLink RX4 203 yX4_holdsLevel, Cond.instanceMethod yX4_holdsLevel, Cond.selects RX4 yX4_holdsLevel yX4_holdsLevel, Cond.initialized RX4, Cond.code yX4_holdsLevel cX4_holdsLevel 4 (some .boolean), Cond.fieldLink RX4 18 "PhaseConverter" "trial" "LPhaseConverter$Plant;", Cond.fieldLink RX4 67 "PhaseConverter$Plant" "settings" "[I", Cond.fieldLink RX4 179 "PhaseConverter$Plant" "leastVoltage" "I", Cond.methodLink RX4 169 yX4_beginTrial, Cond.instanceMethod yX4_beginTrial, Cond.selects RX4 yX4_beginTrial yX4_beginTrial, Cond.code yX4_beginTrial cX4_beginTrial 1 none, Cond.fieldLink RX4 14 "PhaseConverter" "plant" "LPhaseConverter$Plant;", Cond.methodLink RX4 237 yX2_copyFrom, Cond.instanceMethod yX2_copyFrom, Cond.selects RX2 yX2_copyFrom yX2_copyFrom, Cond.initialized RX2, Cond.code yX2_copyFrom cX2_copyFrom 3 none, Cond.fieldLink RX2 18 "PhaseConverter$Plant" "settings" "[I", Cond.methodLink RX2 37 arraycopyName, Cond.native arraycopyName]
def wsX4_greatestLoad_r2 : List Cond := [Cond.static arraycopyName, Cond.initialized "java/lang/System", Cond.fieldLink RX2 25 "PhaseConverter$Plant" "phases" "[LPhaseConverter$Phase;", Cond.fieldLink RX2 30 "PhaseConverter$Plant" "phaseCount" "I", Cond.fieldLink RX2 34 "PhaseConverter$Plant" "active" "I", Cond.fieldLink RX2 46 "PhaseConverter$Plant" "mode" "I", Cond.fieldLink RX2 49 "PhaseConverter$Plant" "voltage" "I", Cond.fieldLink RX2 52 "PhaseConverter$Plant" "presentTarget" "I", Cond.fieldLink RX2 55 "PhaseConverter$Plant" "integral" "I", Cond.fieldLink RX2 58 "PhaseConverter$Plant" "duty" "I", Cond.fieldLink RX2 61 "PhaseConverter$Plant" "addingCount" "I", Cond.fieldLink RX2 64 "PhaseConverter$Plant" "sheddingCount" "I", Cond.fieldLink RX2 67 "PhaseConverter$Plant" "cycles" "I", Cond.fieldLink RX2 70 "PhaseConverter$Plant" "meanCurrent" "I", Cond.fieldLink RX2 73 "PhaseConverter$Plant" "leastVoltage" "I", Cond.fieldLink RX2 76 "PhaseConverter$Plant" "greatestVoltage" "I", Cond.fieldLink RX2 79 "PhaseConverter$Plant" "peakCurrent" "I", Cond.fieldLink RX2 82 "PhaseConverter$Plant" "changes" "I", Cond.methodLink RX2 85 yX1_copyFrom, Cond.instanceMethod yX1_copyFrom, Cond.selects RX1 yX1_copyFrom yX1_copyFrom, Cond.initialized RX1, Cond.code yX1_copyFrom cX1_copyFrom 2 none, Cond.fieldLink RX1 9 "PhaseConverter$Phase" "current" "I"]
def wsX4_greatestLoad_r3 : List Cond := [Cond.fieldLink RX1 15 "PhaseConverter$Phase" "onTime" "I", Cond.fieldLink RX1 18 "PhaseConverter$Phase" "rest" "I", Cond.fieldLink RX1 21 "PhaseConverter$Phase" "onSlots" "I", Cond.fieldLink RX1 24 "PhaseConverter$Phase" "limitEvents" "I", Cond.fieldLink RX1 27 "PhaseConverter$Phase" "skipped" "I", Cond.fieldLink RX1 30 "PhaseConverter$Phase" "pulses" "I", Cond.methodLink RX4 176 yX2_passCycle, Cond.instanceMethod yX2_passCycle, Cond.selects RX2 yX2_passCycle yX2_passCycle, Cond.code yX2_passCycle cX2_passCycle 4 none, Cond.methodLink RX2 122 Lib.Math.min.name, Cond.static Lib.Math.min.name, Cond.initialized "java/lang/Math", Cond.code Lib.Math.min.name Lib.Math.min.code 2 (some .int), Cond.methodLink RX2 128 Lib.Math.max.name, Cond.static Lib.Math.max.name, Cond.code Lib.Math.max.name Lib.Math.max.code 2 (some .int), Cond.methodLink RX2 95 yX2_runs, Cond.instanceMethod yX2_runs, Cond.selects RX2 yX2_runs yX2_runs, Cond.code yX2_runs cX2_runs 1 (some .boolean), Cond.methodLink RX2 99 yX2_halt, Cond.instanceMethod yX2_halt, Cond.selects RX2 yX2_halt yX2_halt]
def wsX4_greatestLoad_r4 : List Cond := [Cond.code yX2_halt cX2_halt 3 none, Cond.fieldLink RX2 92 "PhaseConverter$Phase" "onTime" "I", Cond.methodLink RX2 103 yX2_moveTarget, Cond.instanceMethod yX2_moveTarget, Cond.selects RX2 yX2_moveTarget yX2_moveTarget, Cond.code yX2_moveTarget cX2_moveTarget 2 none, Cond.methodLink RX2 106 yX2_regulate, Cond.instanceMethod yX2_regulate, Cond.selects RX2 yX2_regulate yX2_regulate, Cond.code yX2_regulate cX2_regulate 5 none, Cond.constant RX2 131 (-100000), Cond.constant RX2 132 (100000), Cond.static yX4_clamp, Cond.code yX4_clamp cX4_clamp 3 (some .int), Cond.static yX4_quotient, Cond.code yX4_quotient cX4_quotient 2 (some .int), Cond.methodLink RX2 109 yX2_adaptPhases, Cond.instanceMethod yX2_adaptPhases, Cond.selects RX2 yX2_adaptPhases yX2_adaptPhases, Cond.code yX2_adaptPhases cX2_adaptPhases 3 none, Cond.methodLink RX2 140 yX2_changeActive, Cond.instanceMethod yX2_changeActive, Cond.selects RX2 yX2_changeActive yX2_changeActive, Cond.code yX2_changeActive cX2_changeActive 2 none]
def wsX4_greatestLoad_r5 : List Cond := [Cond.methodLink RX2 112 yX2_beginPulses, Cond.instanceMethod yX2_beginPulses, Cond.selects RX2 yX2_beginPulses yX2_beginPulses, Cond.code yX2_beginPulses cX2_beginPulses 3 none, Cond.methodLink RX2 143 yX2_beginPulse, Cond.instanceMethod yX2_beginPulse, Cond.selects RX2 yX2_beginPulse yX2_beginPulse, Cond.code yX2_beginPulse cX2_beginPulse 5 none, Cond.fieldLink RX2 149 "PhaseConverter$Phase" "current" "I", Cond.methodLink RX2 146 yX1_skipPulse, Cond.instanceMethod yX1_skipPulse, Cond.selects RX1 yX1_skipPulse yX1_skipPulse, Cond.code yX1_skipPulse cX1_skipPulse 1 none, Cond.methodLink RX2 152 yX2_activeCurrents, Cond.instanceMethod yX2_activeCurrents, Cond.selects RX2 yX2_activeCurrents yX2_activeCurrents, Cond.code yX2_activeCurrents cX2_activeCurrents 3 (some .int), Cond.methodLink RX2 155 yX1_beginPulse, Cond.instanceMethod yX1_beginPulse, Cond.selects RX1 yX1_beginPulse yX1_beginPulse, Cond.code yX1_beginPulse cX1_beginPulse 2 none, Cond.methodLink RX2 115 yX2_moveCurrents, Cond.instanceMethod yX2_moveCurrents, Cond.selects RX2 yX2_moveCurrents yX2_moveCurrents]
def wsX4_greatestLoad_r6 : List Cond := [Cond.code yX2_moveCurrents cX2_moveCurrents 7 (some .int), Cond.methodLink RX2 157 yX1_passSlot, Cond.instanceMethod yX1_passSlot, Cond.selects RX1 yX1_passSlot yX1_passSlot, Cond.code yX1_passSlot cX1_passSlot 4 none, Cond.methodLink RX2 119 yX2_moveVoltage, Cond.instanceMethod yX2_moveVoltage, Cond.selects RX2 yX2_moveVoltage yX2_moveVoltage, Cond.code yX2_moveVoltage cX2_moveVoltage 3 none, Cond.constant RX2 161 (40000)]
def wsX4_greatestLoad : List Cond := .code yX4_greatestLoad cX4_greatestLoad 3 (some .int) :: ((wsX4_greatestLoad_r1 ++ (wsX4_greatestLoad_r2 ++ (wsX4_greatestLoad_r3 ++ (wsX4_greatestLoad_r4 ++ (wsX4_greatestLoad_r5 ++ wsX4_greatestLoad_r6))))) ++ wsX40 ++ wsX20 ++ wsX10 ++ (vx_atS RX4 39 "java/lang/IllegalArgumentException" ["java/lang/RuntimeException", "java/lang/Exception"]).filter goodWord)
def wsX4_unbalance : List Cond := .code yX4_unbalance cX4_unbalance 1 (some .int) :: ([.fieldLink RX4 14 "PhaseConverter" "plant" "LPhaseConverter$Plant;", .methodLink RX4 206 yX2_currentSpread, .instanceMethod yX2_currentSpread, .selects RX2 yX2_currentSpread yX2_currentSpread, .initialized RX2, .code yX2_currentSpread cX2_currentSpread 4 (some .int), .fieldLink RX2 25 "PhaseConverter$Plant" "phases" "[LPhaseConverter$Phase;", .fieldLink RX2 149 "PhaseConverter$Phase" "current" "I", .fieldLink RX2 34 "PhaseConverter$Plant" "active" "I", .methodLink RX2 122 Lib.Math.min.name, .static Lib.Math.min.name, .initialized "java/lang/Math", .code Lib.Math.min.name Lib.Math.min.code 2 (some .int), .methodLink RX2 128 Lib.Math.max.name, .static Lib.Math.max.name, .code Lib.Math.max.name Lib.Math.max.code 2 (some .int)] ++ wsX40 ++ wsX20 ++ wsX10)
def wsX4_meanVoltage : List Cond := .code yX4_meanVoltage cX4_meanVoltage 4 (some .double) :: ([.fieldLink RX4 24 "PhaseConverter" "history" "LPhaseConverter$History;", .fieldLink RX4 156 "PhaseConverter$History" "size" "I", .methodLink RX4 163 yX0_part, .instanceMethod yX0_part, .selects RX0 yX0_part yX0_part, .initialized RX0, .code yX0_part cX0_part 5 (some .int), .fieldLink RX0 19 "PhaseConverter$History" "newest" "I", .fieldLink RX0 9 "PhaseConverter$History" "parts" "[I"] ++ wsX40 ++ wsX00)
def wsX4_digest_r1 : List Cond := [Cond.constantLong RX4 209 (2017), Cond.constantLong RX4 211 (31), Cond.fieldLink RX4 14 "PhaseConverter" "plant" "LPhaseConverter$Plant;", Cond.fieldLink RX4 67 "PhaseConverter$Plant" "settings" "[I", Cond.fieldLink RX4 42 "PhaseConverter$Plant" "phaseCount" "I", Cond.fieldLink RX4 143 "PhaseConverter$Plant" "phases" "[LPhaseConverter$Phase;", Cond.fieldLink RX4 24 "PhaseConverter" "history" "LPhaseConverter$History;", Cond.fieldLink RX4 156 "PhaseConverter$History" "size" "I", Cond.fieldLink RX4 31 "PhaseConverter" "program" "LPhaseConverter$Program;", Cond.fieldLink RX4 112 "PhaseConverter$Program" "length" "I", Cond.methodLink RX4 140 yX4_number, Cond.instanceMethod yX4_number, Cond.selects RX4 yX4_number yX4_number, Cond.initialized RX4, Cond.code yX4_number cX4_number 2 (some .int), Cond.methodLink RX4 236 yX2_number, Cond.instanceMethod yX2_number, Cond.selects RX2 yX2_number yX2_number, Cond.initialized RX2, Cond.code yX2_number cX2_number 2 (some .int), Cond.fieldLink RX2 46 "PhaseConverter$Plant" "mode" "I", Cond.fieldLink RX2 49 "PhaseConverter$Plant" "voltage" "I", Cond.fieldLink RX2 52 "PhaseConverter$Plant" "presentTarget" "I", Cond.fieldLink RX2 34 "PhaseConverter$Plant" "active" "I"]
def wsX4_digest_r2 : List Cond := [Cond.fieldLink RX2 67 "PhaseConverter$Plant" "cycles" "I", Cond.fieldLink RX2 70 "PhaseConverter$Plant" "meanCurrent" "I", Cond.fieldLink RX2 55 "PhaseConverter$Plant" "integral" "I", Cond.fieldLink RX2 58 "PhaseConverter$Plant" "duty" "I", Cond.fieldLink RX2 79 "PhaseConverter$Plant" "peakCurrent" "I", Cond.fieldLink RX2 82 "PhaseConverter$Plant" "changes" "I", Cond.fieldLink RX2 30 "PhaseConverter$Plant" "phaseCount" "I", Cond.methodLink RX2 168 yX2_ripple, Cond.instanceMethod yX2_ripple, Cond.selects RX2 yX2_ripple yX2_ripple, Cond.code yX2_ripple cX2_ripple 1 (some .int), Cond.fieldLink RX2 76 "PhaseConverter$Plant" "greatestVoltage" "I", Cond.fieldLink RX2 73 "PhaseConverter$Plant" "leastVoltage" "I", Cond.methodLink RX2 171 yX2_limitEvents, Cond.instanceMethod yX2_limitEvents, Cond.selects RX2 yX2_limitEvents yX2_limitEvents, Cond.code yX2_limitEvents cX2_limitEvents 3 (some .int), Cond.fieldLink RX2 25 "PhaseConverter$Plant" "phases" "[LPhaseConverter$Phase;", Cond.fieldLink RX2 162 "PhaseConverter$Phase" "limitEvents" "I", Cond.methodLink RX2 173 yX2_skippedPulses, Cond.instanceMethod yX2_skippedPulses, Cond.selects RX2 yX2_skippedPulses yX2_skippedPulses, Cond.code yX2_skippedPulses cX2_skippedPulses 3 (some .int), Cond.fieldLink RX2 165 "PhaseConverter$Phase" "skipped" "I"]
def wsX4_digest_r3 : List Cond := [Cond.methodLink RX4 151 yX1_property, Cond.instanceMethod yX1_property, Cond.selects RX1 yX1_property yX1_property, Cond.initialized RX1, Cond.code yX1_property cX1_property 2 (some .int), Cond.fieldLink RX1 9 "PhaseConverter$Phase" "current" "I", Cond.fieldLink RX1 15 "PhaseConverter$Phase" "onTime" "I", Cond.fieldLink RX1 18 "PhaseConverter$Phase" "rest" "I", Cond.fieldLink RX1 21 "PhaseConverter$Phase" "onSlots" "I", Cond.fieldLink RX1 24 "PhaseConverter$Phase" "limitEvents" "I", Cond.fieldLink RX1 27 "PhaseConverter$Phase" "skipped" "I", Cond.fieldLink RX1 30 "PhaseConverter$Phase" "pulses" "I", Cond.methodLink RX4 163 yX0_part, Cond.instanceMethod yX0_part, Cond.selects RX0 yX0_part yX0_part, Cond.initialized RX0, Cond.code yX0_part cX0_part 5 (some .int), Cond.fieldLink RX0 19 "PhaseConverter$History" "newest" "I", Cond.fieldLink RX0 9 "PhaseConverter$History" "parts" "[I", Cond.methodLink RX4 213 yX4_settles, Cond.instanceMethod yX4_settles, Cond.selects RX4 yX4_settles yX4_settles, Cond.code yX4_settles cX4_settles 5 (some .int), Cond.classLink RX4 35 "java/lang/IllegalArgumentException"]
def wsX4_digest_r4 : List Cond := [Cond.initialized "java/lang/IllegalArgumentException", Cond.fieldLink RX4 18 "PhaseConverter" "trial" "LPhaseConverter$Plant;", Cond.fieldLink RX4 83 "PhaseConverter$Plant" "voltage" "I", Cond.methodLink RX4 198 Lib.Math.abs.name, Cond.static Lib.Math.abs.name, Cond.initialized "java/lang/Math", Cond.code Lib.Math.abs.name Lib.Math.abs.code 1 (some .int), Cond.methodLink RX4 169 yX4_beginTrial, Cond.instanceMethod yX4_beginTrial, Cond.selects RX4 yX4_beginTrial yX4_beginTrial, Cond.code yX4_beginTrial cX4_beginTrial 1 none, Cond.methodLink RX4 237 yX2_copyFrom, Cond.instanceMethod yX2_copyFrom, Cond.selects RX2 yX2_copyFrom yX2_copyFrom, Cond.code yX2_copyFrom cX2_copyFrom 3 none, Cond.fieldLink RX2 18 "PhaseConverter$Plant" "settings" "[I", Cond.methodLink RX2 37 arraycopyName, Cond.native arraycopyName, Cond.static arraycopyName, Cond.initialized "java/lang/System", Cond.fieldLink RX2 61 "PhaseConverter$Plant" "addingCount" "I", Cond.fieldLink RX2 64 "PhaseConverter$Plant" "sheddingCount" "I", Cond.methodLink RX2 85 yX1_copyFrom, Cond.instanceMethod yX1_copyFrom]
def wsX4_digest_r5 : List Cond := [Cond.selects RX1 yX1_copyFrom yX1_copyFrom, Cond.code yX1_copyFrom cX1_copyFrom 2 none, Cond.methodLink RX4 176 yX2_passCycle, Cond.instanceMethod yX2_passCycle, Cond.selects RX2 yX2_passCycle yX2_passCycle, Cond.code yX2_passCycle cX2_passCycle 4 none, Cond.methodLink RX2 122 Lib.Math.min.name, Cond.static Lib.Math.min.name, Cond.code Lib.Math.min.name Lib.Math.min.code 2 (some .int), Cond.methodLink RX2 128 Lib.Math.max.name, Cond.static Lib.Math.max.name, Cond.code Lib.Math.max.name Lib.Math.max.code 2 (some .int), Cond.methodLink RX2 95 yX2_runs, Cond.instanceMethod yX2_runs, Cond.selects RX2 yX2_runs yX2_runs, Cond.code yX2_runs cX2_runs 1 (some .boolean), Cond.methodLink RX2 99 yX2_halt, Cond.instanceMethod yX2_halt, Cond.selects RX2 yX2_halt yX2_halt, Cond.code yX2_halt cX2_halt 3 none, Cond.fieldLink RX2 92 "PhaseConverter$Phase" "onTime" "I", Cond.methodLink RX2 103 yX2_moveTarget, Cond.instanceMethod yX2_moveTarget, Cond.selects RX2 yX2_moveTarget yX2_moveTarget]
def wsX4_digest_r6 : List Cond := [Cond.code yX2_moveTarget cX2_moveTarget 2 none, Cond.methodLink RX2 106 yX2_regulate, Cond.instanceMethod yX2_regulate, Cond.selects RX2 yX2_regulate yX2_regulate, Cond.code yX2_regulate cX2_regulate 5 none, Cond.constant RX2 131 (-100000), Cond.constant RX2 132 (100000), Cond.static yX4_clamp, Cond.code yX4_clamp cX4_clamp 3 (some .int), Cond.static yX4_quotient, Cond.code yX4_quotient cX4_quotient 2 (some .int), Cond.methodLink RX2 109 yX2_adaptPhases, Cond.instanceMethod yX2_adaptPhases, Cond.selects RX2 yX2_adaptPhases yX2_adaptPhases, Cond.code yX2_adaptPhases cX2_adaptPhases 3 none, Cond.methodLink RX2 140 yX2_changeActive, Cond.instanceMethod yX2_changeActive, Cond.selects RX2 yX2_changeActive yX2_changeActive, Cond.code yX2_changeActive cX2_changeActive 2 none, Cond.methodLink RX2 112 yX2_beginPulses, Cond.instanceMethod yX2_beginPulses, Cond.selects RX2 yX2_beginPulses yX2_beginPulses, Cond.code yX2_beginPulses cX2_beginPulses 3 none, Cond.methodLink RX2 143 yX2_beginPulse]
def wsX4_digest_r7 : List Cond := [Cond.instanceMethod yX2_beginPulse, Cond.selects RX2 yX2_beginPulse yX2_beginPulse, Cond.code yX2_beginPulse cX2_beginPulse 5 none, Cond.fieldLink RX2 149 "PhaseConverter$Phase" "current" "I", Cond.methodLink RX2 146 yX1_skipPulse, Cond.instanceMethod yX1_skipPulse, Cond.selects RX1 yX1_skipPulse yX1_skipPulse, Cond.code yX1_skipPulse cX1_skipPulse 1 none, Cond.methodLink RX2 152 yX2_activeCurrents, Cond.instanceMethod yX2_activeCurrents, Cond.selects RX2 yX2_activeCurrents yX2_activeCurrents, Cond.code yX2_activeCurrents cX2_activeCurrents 3 (some .int), Cond.methodLink RX2 155 yX1_beginPulse, Cond.instanceMethod yX1_beginPulse, Cond.selects RX1 yX1_beginPulse yX1_beginPulse, Cond.code yX1_beginPulse cX1_beginPulse 2 none, Cond.methodLink RX2 115 yX2_moveCurrents, Cond.instanceMethod yX2_moveCurrents, Cond.selects RX2 yX2_moveCurrents yX2_moveCurrents, Cond.code yX2_moveCurrents cX2_moveCurrents 7 (some .int), Cond.methodLink RX2 157 yX1_passSlot, Cond.instanceMethod yX1_passSlot, Cond.selects RX1 yX1_passSlot yX1_passSlot, Cond.code yX1_passSlot cX1_passSlot 4 none]
def wsX4_digest_r8 : List Cond := [Cond.methodLink RX2 119 yX2_moveVoltage, Cond.instanceMethod yX2_moveVoltage, Cond.selects RX2 yX2_moveVoltage yX2_moveVoltage, Cond.code yX2_moveVoltage cX2_moveVoltage 3 none, Cond.constant RX2 161 (40000), Cond.methodLink RX4 206 yX2_currentSpread, Cond.instanceMethod yX2_currentSpread, Cond.selects RX2 yX2_currentSpread yX2_currentSpread, Cond.code yX2_currentSpread cX2_currentSpread 4 (some .int), Cond.methodLink RX4 124 yX3_codeAt, Cond.instanceMethod yX3_codeAt, Cond.selects RX3 yX3_codeAt yX3_codeAt, Cond.initialized RX3, Cond.code yX3_codeAt cX3_codeAt 2 (some .int), Cond.fieldLink RX3 9 "PhaseConverter$Program" "codes" "[I"]
def wsX4_digest : List Cond := .code yX4_digest cX4_digest 5 (some .long) :: ((wsX4_digest_r1 ++ (wsX4_digest_r2 ++ (wsX4_digest_r3 ++ (wsX4_digest_r4 ++ (wsX4_digest_r5 ++ (wsX4_digest_r6 ++ (wsX4_digest_r7 ++ wsX4_digest_r8))))))) ++ wsX40 ++ wsX20 ++ wsX00 ++ wsX30 ++ wsX10 ++ (vx_atS RX4 39 "java/lang/IllegalArgumentException" ["java/lang/RuntimeException", "java/lang/Exception"]).filter goodWord)
def wsX5_first : List Cond := .code yX5_first cX5_first 1 (some .int) :: ([])
def wsX5_fresh : List Cond := .code yX5_fresh cX5_fresh 3 none :: ([.fieldLink RX5 7 "PhaseConverterModel" "z" "[I", .methodLink RX5 31 yX5_first, .static yX5_first, .initialized RX5, .code yX5_first cX5_first 1 (some .int)] ++ wsX50)
def wsX5_init : List Cond := .code yX5_init cX5_init 1 none :: ([.methodLink RX5 1 objectInit, .instanceMethod objectInit, .code objectInit ⟨#[0xb1]⟩ 1 none, .arrayClass .int, .fieldLink RX5 7 "PhaseConverterModel" "z" "[I", .fieldLink RX5 13 "PhaseConverterModel" "aside" "[I", .fieldLink RX5 16 "PhaseConverterModel" "text" "[I", .fieldLink RX5 19 "PhaseConverterModel" "read" "[I", .methodLink RX5 22 yX5_fresh, .instanceMethod yX5_fresh, .selects RX5 yX5_fresh yX5_fresh, .initialized RX5, .code yX5_fresh cX5_fresh 3 none, .methodLink RX5 31 yX5_first, .static yX5_first, .code yX5_first cX5_first 1 (some .int)] ++ wsX50)
def wsX5_thrown : List Cond := .code yX5_thrown cX5_thrown 1 (some .int) :: ([.fieldLink RX5 26 "PhaseConverterModel" "thrown" "I"] ++ wsX50)
def wsX5_within : List Cond := .code yX5_within cX5_within 3 (some .boolean) :: ([])
def wsX5_clamped : List Cond := .code yX5_clamped cX5_clamped 3 (some .int) :: ([])
def wsX5_lowest : List Cond := .code yX5_lowest cX5_lowest 1 (some .int) :: ([])
def wsX5_highest : List Cond := .code yX5_highest cX5_highest 1 (some .int) :: ([.constant RX5 30 (60000)])
def wsX5_at : List Cond := .code yX5_at cX5_at 2 (some .int) :: ([])
def wsX5_runs : List Cond := .code yX5_runs cX5_runs 1 (some .boolean) :: ([.fieldLink RX5 7 "PhaseConverterModel" "z" "[I"] ++ wsX50)
def wsX5_stopTo : List Cond := .code yX5_stopTo cX5_stopTo 3 none :: ([.fieldLink RX5 7 "PhaseConverterModel" "z" "[I", .methodLink RX5 35 yX5_at, .static yX5_at, .initialized RX5, .code yX5_at cX5_at 2 (some .int)] ++ wsX50)
def wsX5_sum : List Cond := .code yX5_sum cX5_sum 4 (some .int) :: ([.fieldLink RX5 7 "PhaseConverterModel" "z" "[I", .methodLink RX5 35 yX5_at, .static yX5_at, .initialized RX5, .code yX5_at cX5_at 2 (some .int)] ++ wsX50)
def wsX5_aim : List Cond := .code yX5_aim cX5_aim 1 none :: ([.fieldLink RX5 7 "PhaseConverterModel" "z" "[I"] ++ wsX50)
def wsX5_regulate : List Cond := .code yX5_regulate cX5_regulate 2 none :: ([.fieldLink RX5 7 "PhaseConverterModel" "z" "[I", .constant RX5 39 (-100000), .constant RX5 40 (100000), .methodLink RX5 41 yX5_clamped, .static yX5_clamped, .initialized RX5, .code yX5_clamped cX5_clamped 3 (some .int)] ++ wsX50)
def wsX5_changePhases : List Cond := .code yX5_changePhases cX5_changePhases 2 none :: ([.fieldLink RX5 7 "PhaseConverterModel" "z" "[I"] ++ wsX50)
def wsX5_choosePhases : List Cond := .code yX5_choosePhases cX5_choosePhases 3 none :: ([.fieldLink RX5 7 "PhaseConverterModel" "z" "[I", .methodLink RX5 45 yX5_changePhases, .instanceMethod yX5_changePhases, .selects RX5 yX5_changePhases yX5_changePhases, .initialized RX5, .code yX5_changePhases cX5_changePhases 2 none, .methodLink RX5 35 yX5_at, .static yX5_at, .code yX5_at cX5_at 2 (some .int)] ++ wsX50)
def wsX5_beginPulse : List Cond := .code yX5_beginPulse cX5_beginPulse 6 none :: ([.fieldLink RX5 7 "PhaseConverterModel" "z" "[I", .methodLink RX5 35 yX5_at, .static yX5_at, .initialized RX5, .code yX5_at cX5_at 2 (some .int), .methodLink RX5 48 yX5_sum, .instanceMethod yX5_sum, .selects RX5 yX5_sum yX5_sum, .code yX5_sum cX5_sum 4 (some .int), .methodLink RX5 41 yX5_clamped, .static yX5_clamped, .code yX5_clamped cX5_clamped 3 (some .int)] ++ wsX50)
def wsX5_step : List Cond := .code yX5_step cX5_step 2 none :: ([.fieldLink RX5 7 "PhaseConverterModel" "z" "[I", .methodLink RX5 35 yX5_at, .static yX5_at, .initialized RX5, .code yX5_at cX5_at 2 (some .int)] ++ wsX50)
def wsX5_slot_r1 : List Cond := [Cond.fieldLink RX5 7 "PhaseConverterModel" "z" "[I", Cond.fieldLink RX5 62 "PhaseConverterModel" "strongest" "I", Cond.constant RX5 65 (40000), Cond.fieldLink RX5 69 "PhaseConverterModel" "least" "I", Cond.fieldLink RX5 72 "PhaseConverterModel" "most" "I", Cond.methodLink RX5 51 yX5_runs, Cond.instanceMethod yX5_runs, Cond.selects RX5 yX5_runs yX5_runs, Cond.initialized RX5, Cond.code yX5_runs cX5_runs 1 (some .boolean), Cond.methodLink RX5 55 yX5_beginPulse, Cond.instanceMethod yX5_beginPulse, Cond.selects RX5 yX5_beginPulse yX5_beginPulse, Cond.code yX5_beginPulse cX5_beginPulse 6 none, Cond.methodLink RX5 35 yX5_at, Cond.static yX5_at, Cond.code yX5_at cX5_at 2 (some .int), Cond.methodLink RX5 48 yX5_sum, Cond.instanceMethod yX5_sum, Cond.selects RX5 yX5_sum yX5_sum, Cond.code yX5_sum cX5_sum 4 (some .int), Cond.methodLink RX5 41 yX5_clamped, Cond.static yX5_clamped, Cond.code yX5_clamped cX5_clamped 3 (some .int)]
def wsX5_slot_r2 : List Cond := [Cond.methodLink RX5 59 yX5_step, Cond.instanceMethod yX5_step, Cond.selects RX5 yX5_step yX5_step, Cond.code yX5_step cX5_step 2 none, Cond.methodLink RX5 66 yX5_stopTo, Cond.instanceMethod yX5_stopTo, Cond.selects RX5 yX5_stopTo yX5_stopTo, Cond.code yX5_stopTo cX5_stopTo 3 none]
def wsX5_slot : List Cond := .code yX5_slot cX5_slot 4 none :: ((wsX5_slot_r1 ++ wsX5_slot_r2) ++ wsX50)
def wsX5_record : List Cond := .code yX5_record cX5_record 3 none :: ([.fieldLink RX5 7 "PhaseConverterModel" "z" "[I"] ++ wsX50)
def wsX5_layExtremes : List Cond := .code yX5_layExtremes cX5_layExtremes 1 none :: ([.constant RX5 75 (1000000), .fieldLink RX5 69 "PhaseConverterModel" "least" "I", .fieldLink RX5 72 "PhaseConverterModel" "most" "I", .fieldLink RX5 62 "PhaseConverterModel" "strongest" "I"] ++ wsX50)
def wsX5_cycle_r1 : List Cond := [Cond.fieldLink RX5 7 "PhaseConverterModel" "z" "[I", Cond.constant RX5 75 (1000000), Cond.fieldLink RX5 62 "PhaseConverterModel" "strongest" "I", Cond.methodLink RX5 51 yX5_runs, Cond.instanceMethod yX5_runs, Cond.selects RX5 yX5_runs yX5_runs, Cond.initialized RX5, Cond.code yX5_runs cX5_runs 1 (some .boolean), Cond.methodLink RX5 66 yX5_stopTo, Cond.instanceMethod yX5_stopTo, Cond.selects RX5 yX5_stopTo yX5_stopTo, Cond.code yX5_stopTo cX5_stopTo 3 none, Cond.methodLink RX5 35 yX5_at, Cond.static yX5_at, Cond.code yX5_at cX5_at 2 (some .int), Cond.methodLink RX5 76 yX5_aim, Cond.instanceMethod yX5_aim, Cond.selects RX5 yX5_aim yX5_aim, Cond.code yX5_aim cX5_aim 1 none, Cond.methodLink RX5 79 yX5_regulate, Cond.instanceMethod yX5_regulate, Cond.selects RX5 yX5_regulate yX5_regulate, Cond.code yX5_regulate cX5_regulate 2 none, Cond.constant RX5 39 (-100000)]
def wsX5_cycle_r2 : List Cond := [Cond.constant RX5 40 (100000), Cond.methodLink RX5 41 yX5_clamped, Cond.static yX5_clamped, Cond.code yX5_clamped cX5_clamped 3 (some .int), Cond.methodLink RX5 82 yX5_choosePhases, Cond.instanceMethod yX5_choosePhases, Cond.selects RX5 yX5_choosePhases yX5_choosePhases, Cond.code yX5_choosePhases cX5_choosePhases 3 none, Cond.methodLink RX5 45 yX5_changePhases, Cond.instanceMethod yX5_changePhases, Cond.selects RX5 yX5_changePhases yX5_changePhases, Cond.code yX5_changePhases cX5_changePhases 2 none, Cond.methodLink RX5 85 yX5_slot, Cond.instanceMethod yX5_slot, Cond.selects RX5 yX5_slot yX5_slot, Cond.code yX5_slot cX5_slot 4 none, Cond.constant RX5 65 (40000), Cond.fieldLink RX5 69 "PhaseConverterModel" "least" "I", Cond.fieldLink RX5 72 "PhaseConverterModel" "most" "I", Cond.methodLink RX5 55 yX5_beginPulse, Cond.instanceMethod yX5_beginPulse, Cond.selects RX5 yX5_beginPulse yX5_beginPulse, Cond.code yX5_beginPulse cX5_beginPulse 6 none, Cond.methodLink RX5 48 yX5_sum]
def wsX5_cycle_r3 : List Cond := [Cond.instanceMethod yX5_sum, Cond.selects RX5 yX5_sum yX5_sum, Cond.code yX5_sum cX5_sum 4 (some .int), Cond.methodLink RX5 59 yX5_step, Cond.instanceMethod yX5_step, Cond.selects RX5 yX5_step yX5_step, Cond.code yX5_step cX5_step 2 none, Cond.methodLink RX5 88 yX5_record, Cond.instanceMethod yX5_record, Cond.selects RX5 yX5_record yX5_record, Cond.code yX5_record cX5_record 3 none]
def wsX5_cycle : List Cond := .code yX5_cycle cX5_cycle 7 none :: ((wsX5_cycle_r1 ++ (wsX5_cycle_r2 ++ wsX5_cycle_r3)) ++ wsX50)
def wsX5_begin : List Cond := .code yX5_begin cX5_begin 3 (some .int) :: ([.fieldLink RX5 26 "PhaseConverterModel" "thrown" "I", .fieldLink RX5 7 "PhaseConverterModel" "z" "[I", .methodLink RX5 91 yX5_within, .static yX5_within, .initialized RX5, .code yX5_within cX5_within 3 (some .boolean), .methodLink RX5 22 yX5_fresh, .instanceMethod yX5_fresh, .selects RX5 yX5_fresh yX5_fresh, .code yX5_fresh cX5_fresh 3 none, .methodLink RX5 31 yX5_first, .static yX5_first, .code yX5_first cX5_first 1 (some .int)] ++ wsX50)
def wsX5_isSetting : List Cond := .code yX5_isSetting cX5_isSetting 1 (some .boolean) :: ([.methodLink RX5 91 yX5_within, .static yX5_within, .initialized RX5, .code yX5_within cX5_within 3 (some .boolean)])
def wsX5_set : List Cond := .code yX5_set cX5_set 4 (some .int) :: ([.fieldLink RX5 26 "PhaseConverterModel" "thrown" "I", .fieldLink RX5 7 "PhaseConverterModel" "z" "[I", .methodLink RX5 95 yX5_isSetting, .static yX5_isSetting, .initialized RX5, .code yX5_isSetting cX5_isSetting 1 (some .boolean), .methodLink RX5 91 yX5_within, .static yX5_within, .code yX5_within cX5_within 3 (some .boolean), .methodLink RX5 99 yX5_lowest, .static yX5_lowest, .code yX5_lowest cX5_lowest 1 (some .int), .methodLink RX5 102 yX5_highest, .static yX5_highest, .code yX5_highest cX5_highest 1 (some .int), .constant RX5 30 (60000)] ++ wsX50)
def wsX5_setting : List Cond := .code yX5_setting cX5_setting 2 (some .int) :: ([.fieldLink RX5 26 "PhaseConverterModel" "thrown" "I", .fieldLink RX5 7 "PhaseConverterModel" "z" "[I", .methodLink RX5 95 yX5_isSetting, .static yX5_isSetting, .initialized RX5, .code yX5_isSetting cX5_isSetting 1 (some .boolean), .methodLink RX5 91 yX5_within, .static yX5_within, .code yX5_within cX5_within 3 (some .boolean)] ++ wsX50)
def wsX5_start : List Cond := .code yX5_start cX5_start 2 (some .int) :: ([.fieldLink RX5 26 "PhaseConverterModel" "thrown" "I", .fieldLink RX5 7 "PhaseConverterModel" "z" "[I", .methodLink RX5 51 yX5_runs, .instanceMethod yX5_runs, .selects RX5 yX5_runs yX5_runs, .initialized RX5, .code yX5_runs cX5_runs 1 (some .boolean), .methodLink RX5 35 yX5_at, .static yX5_at, .code yX5_at cX5_at 2 (some .int)] ++ wsX50)
def wsX5_stop : List Cond := .code yX5_stop cX5_stop 2 (some .int) :: ([.fieldLink RX5 26 "PhaseConverterModel" "thrown" "I", .fieldLink RX5 7 "PhaseConverterModel" "z" "[I", .methodLink RX5 66 yX5_stopTo, .instanceMethod yX5_stopTo, .selects RX5 yX5_stopTo yX5_stopTo, .initialized RX5, .code yX5_stopTo cX5_stopTo 3 none, .methodLink RX5 35 yX5_at, .static yX5_at, .code yX5_at cX5_at 2 (some .int)] ++ wsX50)
def wsX5_run_r1 : List Cond := [Cond.fieldLink RX5 7 "PhaseConverterModel" "z" "[I", Cond.constant RX5 40 (100000), Cond.fieldLink RX5 26 "PhaseConverterModel" "thrown" "I", Cond.methodLink RX5 91 yX5_within, Cond.static yX5_within, Cond.initialized RX5, Cond.code yX5_within cX5_within 3 (some .boolean), Cond.methodLink RX5 105 yX5_layExtremes, Cond.instanceMethod yX5_layExtremes, Cond.selects RX5 yX5_layExtremes yX5_layExtremes, Cond.code yX5_layExtremes cX5_layExtremes 1 none, Cond.constant RX5 75 (1000000), Cond.fieldLink RX5 69 "PhaseConverterModel" "least" "I", Cond.fieldLink RX5 72 "PhaseConverterModel" "most" "I", Cond.fieldLink RX5 62 "PhaseConverterModel" "strongest" "I", Cond.methodLink RX5 108 yX5_cycle, Cond.instanceMethod yX5_cycle, Cond.selects RX5 yX5_cycle yX5_cycle, Cond.code yX5_cycle cX5_cycle 7 none, Cond.methodLink RX5 51 yX5_runs, Cond.instanceMethod yX5_runs, Cond.selects RX5 yX5_runs yX5_runs, Cond.code yX5_runs cX5_runs 1 (some .boolean), Cond.methodLink RX5 66 yX5_stopTo]
def wsX5_run_r2 : List Cond := [Cond.instanceMethod yX5_stopTo, Cond.selects RX5 yX5_stopTo yX5_stopTo, Cond.code yX5_stopTo cX5_stopTo 3 none, Cond.methodLink RX5 35 yX5_at, Cond.static yX5_at, Cond.code yX5_at cX5_at 2 (some .int), Cond.methodLink RX5 76 yX5_aim, Cond.instanceMethod yX5_aim, Cond.selects RX5 yX5_aim yX5_aim, Cond.code yX5_aim cX5_aim 1 none, Cond.methodLink RX5 79 yX5_regulate, Cond.instanceMethod yX5_regulate, Cond.selects RX5 yX5_regulate yX5_regulate, Cond.code yX5_regulate cX5_regulate 2 none, Cond.constant RX5 39 (-100000), Cond.methodLink RX5 41 yX5_clamped, Cond.static yX5_clamped, Cond.code yX5_clamped cX5_clamped 3 (some .int), Cond.methodLink RX5 82 yX5_choosePhases, Cond.instanceMethod yX5_choosePhases, Cond.selects RX5 yX5_choosePhases yX5_choosePhases, Cond.code yX5_choosePhases cX5_choosePhases 3 none, Cond.methodLink RX5 45 yX5_changePhases, Cond.instanceMethod yX5_changePhases]
def wsX5_run_r3 : List Cond := [Cond.selects RX5 yX5_changePhases yX5_changePhases, Cond.code yX5_changePhases cX5_changePhases 2 none, Cond.methodLink RX5 85 yX5_slot, Cond.instanceMethod yX5_slot, Cond.selects RX5 yX5_slot yX5_slot, Cond.code yX5_slot cX5_slot 4 none, Cond.constant RX5 65 (40000), Cond.methodLink RX5 55 yX5_beginPulse, Cond.instanceMethod yX5_beginPulse, Cond.selects RX5 yX5_beginPulse yX5_beginPulse, Cond.code yX5_beginPulse cX5_beginPulse 6 none, Cond.methodLink RX5 48 yX5_sum, Cond.instanceMethod yX5_sum, Cond.selects RX5 yX5_sum yX5_sum, Cond.code yX5_sum cX5_sum 4 (some .int), Cond.methodLink RX5 59 yX5_step, Cond.instanceMethod yX5_step, Cond.selects RX5 yX5_step yX5_step, Cond.code yX5_step cX5_step 2 none, Cond.methodLink RX5 88 yX5_record, Cond.instanceMethod yX5_record, Cond.selects RX5 yX5_record yX5_record, Cond.code yX5_record cX5_record 3 none]
def wsX5_run : List Cond := .code yX5_run cX5_run 3 (some .int) :: ((wsX5_run_r1 ++ (wsX5_run_r2 ++ wsX5_run_r3)) ++ wsX50)
def wsX5_append : List Cond := .code yX5_append cX5_append 2 (some .int) :: ([.fieldLink RX5 111 "PhaseConverterModel" "length" "I", .fieldLink RX5 26 "PhaseConverterModel" "thrown" "I", .fieldLink RX5 16 "PhaseConverterModel" "text" "[I", .methodLink RX5 91 yX5_within, .static yX5_within, .initialized RX5, .code yX5_within cX5_within 3 (some .boolean)] ++ wsX50)
def wsX5_clearBuffer : List Cond := .code yX5_clearBuffer cX5_clearBuffer 2 (some .int) :: ([.fieldLink RX5 26 "PhaseConverterModel" "thrown" "I", .fieldLink RX5 111 "PhaseConverterModel" "length" "I"] ++ wsX50)
def wsX5_takesSign : List Cond := .code yX5_takesSign cX5_takesSign 4 (some .boolean) :: ([.fieldLink RX5 114 "PhaseConverterModel" "sign" "I", .fieldLink RX5 117 "PhaseConverterModel" "number" "I", .fieldLink RX5 120 "PhaseConverterModel" "digits" "I", .fieldLink RX5 123 "PhaseConverterModel" "step" "I"] ++ wsX50)
def wsX5_endItem : List Cond := .code yX5_endItem cX5_endItem 1 none :: ([.fieldLink RX5 19 "PhaseConverterModel" "read" "[I", .fieldLink RX5 131 "PhaseConverterModel" "items" "I", .fieldLink RX5 114 "PhaseConverterModel" "sign" "I", .fieldLink RX5 117 "PhaseConverterModel" "number" "I", .fieldLink RX5 123 "PhaseConverterModel" "step" "I"] ++ wsX50)
def wsX5_takes : List Cond := .code yX5_takes cX5_takes 3 (some .boolean) :: ([.fieldLink RX5 123 "PhaseConverterModel" "step" "I", .fieldLink RX5 117 "PhaseConverterModel" "number" "I", .fieldLink RX5 120 "PhaseConverterModel" "digits" "I", .methodLink RX5 91 yX5_within, .static yX5_within, .initialized RX5, .code yX5_within cX5_within 3 (some .boolean), .methodLink RX5 125 yX5_takesSign, .instanceMethod yX5_takesSign, .selects RX5 yX5_takesSign yX5_takesSign, .code yX5_takesSign cX5_takesSign 4 (some .boolean), .fieldLink RX5 114 "PhaseConverterModel" "sign" "I", .methodLink RX5 128 yX5_endItem, .instanceMethod yX5_endItem, .selects RX5 yX5_endItem yX5_endItem, .code yX5_endItem cX5_endItem 1 none, .fieldLink RX5 19 "PhaseConverterModel" "read" "[I", .fieldLink RX5 131 "PhaseConverterModel" "items" "I"] ++ wsX50)
def wsX5_readText : List Cond := .code yX5_readText cX5_readText 2 (some .int) :: ([.fieldLink RX5 123 "PhaseConverterModel" "step" "I", .fieldLink RX5 131 "PhaseConverterModel" "items" "I", .fieldLink RX5 111 "PhaseConverterModel" "length" "I", .fieldLink RX5 16 "PhaseConverterModel" "text" "[I", .methodLink RX5 134 yX5_takes, .instanceMethod yX5_takes, .selects RX5 yX5_takes yX5_takes, .initialized RX5, .code yX5_takes cX5_takes 3 (some .boolean), .fieldLink RX5 117 "PhaseConverterModel" "number" "I", .fieldLink RX5 120 "PhaseConverterModel" "digits" "I", .methodLink RX5 91 yX5_within, .static yX5_within, .code yX5_within cX5_within 3 (some .boolean), .methodLink RX5 125 yX5_takesSign, .instanceMethod yX5_takesSign, .selects RX5 yX5_takesSign yX5_takesSign, .code yX5_takesSign cX5_takesSign 4 (some .boolean), .fieldLink RX5 114 "PhaseConverterModel" "sign" "I", .methodLink RX5 128 yX5_endItem, .instanceMethod yX5_endItem, .selects RX5 yX5_endItem yX5_endItem, .code yX5_endItem cX5_endItem 1 none, .fieldLink RX5 19 "PhaseConverterModel" "read" "[I"] ++ wsX50)
def wsX5_firstError_r1 : List Cond := [Cond.fieldLink RX5 26 "PhaseConverterModel" "thrown" "I", Cond.methodLink RX5 137 yX5_readText, Cond.instanceMethod yX5_readText, Cond.selects RX5 yX5_readText yX5_readText, Cond.initialized RX5, Cond.code yX5_readText cX5_readText 2 (some .int), Cond.fieldLink RX5 123 "PhaseConverterModel" "step" "I", Cond.fieldLink RX5 131 "PhaseConverterModel" "items" "I", Cond.fieldLink RX5 111 "PhaseConverterModel" "length" "I", Cond.fieldLink RX5 16 "PhaseConverterModel" "text" "[I", Cond.methodLink RX5 134 yX5_takes, Cond.instanceMethod yX5_takes, Cond.selects RX5 yX5_takes yX5_takes, Cond.code yX5_takes cX5_takes 3 (some .boolean), Cond.fieldLink RX5 117 "PhaseConverterModel" "number" "I", Cond.fieldLink RX5 120 "PhaseConverterModel" "digits" "I", Cond.methodLink RX5 91 yX5_within, Cond.static yX5_within, Cond.code yX5_within cX5_within 3 (some .boolean), Cond.methodLink RX5 125 yX5_takesSign, Cond.instanceMethod yX5_takesSign, Cond.selects RX5 yX5_takesSign yX5_takesSign, Cond.code yX5_takesSign cX5_takesSign 4 (some .boolean), Cond.fieldLink RX5 114 "PhaseConverterModel" "sign" "I"]
def wsX5_firstError_r2 : List Cond := [Cond.methodLink RX5 128 yX5_endItem, Cond.instanceMethod yX5_endItem, Cond.selects RX5 yX5_endItem yX5_endItem, Cond.code yX5_endItem cX5_endItem 1 none, Cond.fieldLink RX5 19 "PhaseConverterModel" "read" "[I"]
def wsX5_firstError : List Cond := .code yX5_firstError cX5_firstError 1 (some .int) :: ((wsX5_firstError_r1 ++ wsX5_firstError_r2) ++ wsX50)
def wsX5_does_r1 : List Cond := [Cond.fieldLink RX5 26 "PhaseConverterModel" "thrown" "I", Cond.methodLink RX5 141 yX5_start, Cond.instanceMethod yX5_start, Cond.selects RX5 yX5_start yX5_start, Cond.initialized RX5, Cond.code yX5_start cX5_start 2 (some .int), Cond.fieldLink RX5 7 "PhaseConverterModel" "z" "[I", Cond.methodLink RX5 51 yX5_runs, Cond.instanceMethod yX5_runs, Cond.selects RX5 yX5_runs yX5_runs, Cond.code yX5_runs cX5_runs 1 (some .boolean), Cond.methodLink RX5 35 yX5_at, Cond.static yX5_at, Cond.code yX5_at cX5_at 2 (some .int), Cond.methodLink RX5 144 yX5_stop, Cond.instanceMethod yX5_stop, Cond.selects RX5 yX5_stop yX5_stop, Cond.code yX5_stop cX5_stop 2 (some .int), Cond.methodLink RX5 66 yX5_stopTo, Cond.instanceMethod yX5_stopTo, Cond.selects RX5 yX5_stopTo yX5_stopTo, Cond.code yX5_stopTo cX5_stopTo 3 none, Cond.methodLink RX5 147 yX5_run, Cond.instanceMethod yX5_run]
def wsX5_does_r2 : List Cond := [Cond.selects RX5 yX5_run yX5_run, Cond.code yX5_run cX5_run 3 (some .int), Cond.constant RX5 40 (100000), Cond.methodLink RX5 91 yX5_within, Cond.static yX5_within, Cond.code yX5_within cX5_within 3 (some .boolean), Cond.methodLink RX5 105 yX5_layExtremes, Cond.instanceMethod yX5_layExtremes, Cond.selects RX5 yX5_layExtremes yX5_layExtremes, Cond.code yX5_layExtremes cX5_layExtremes 1 none, Cond.constant RX5 75 (1000000), Cond.fieldLink RX5 69 "PhaseConverterModel" "least" "I", Cond.fieldLink RX5 72 "PhaseConverterModel" "most" "I", Cond.fieldLink RX5 62 "PhaseConverterModel" "strongest" "I", Cond.methodLink RX5 108 yX5_cycle, Cond.instanceMethod yX5_cycle, Cond.selects RX5 yX5_cycle yX5_cycle, Cond.code yX5_cycle cX5_cycle 7 none, Cond.methodLink RX5 76 yX5_aim, Cond.instanceMethod yX5_aim, Cond.selects RX5 yX5_aim yX5_aim, Cond.code yX5_aim cX5_aim 1 none, Cond.methodLink RX5 79 yX5_regulate, Cond.instanceMethod yX5_regulate]
def wsX5_does_r3 : List Cond := [Cond.selects RX5 yX5_regulate yX5_regulate, Cond.code yX5_regulate cX5_regulate 2 none, Cond.constant RX5 39 (-100000), Cond.methodLink RX5 41 yX5_clamped, Cond.static yX5_clamped, Cond.code yX5_clamped cX5_clamped 3 (some .int), Cond.methodLink RX5 82 yX5_choosePhases, Cond.instanceMethod yX5_choosePhases, Cond.selects RX5 yX5_choosePhases yX5_choosePhases, Cond.code yX5_choosePhases cX5_choosePhases 3 none, Cond.methodLink RX5 45 yX5_changePhases, Cond.instanceMethod yX5_changePhases, Cond.selects RX5 yX5_changePhases yX5_changePhases, Cond.code yX5_changePhases cX5_changePhases 2 none, Cond.methodLink RX5 85 yX5_slot, Cond.instanceMethod yX5_slot, Cond.selects RX5 yX5_slot yX5_slot, Cond.code yX5_slot cX5_slot 4 none, Cond.constant RX5 65 (40000), Cond.methodLink RX5 55 yX5_beginPulse, Cond.instanceMethod yX5_beginPulse, Cond.selects RX5 yX5_beginPulse yX5_beginPulse, Cond.code yX5_beginPulse cX5_beginPulse 6 none, Cond.methodLink RX5 48 yX5_sum]
def wsX5_does_r4 : List Cond := [Cond.instanceMethod yX5_sum, Cond.selects RX5 yX5_sum yX5_sum, Cond.code yX5_sum cX5_sum 4 (some .int), Cond.methodLink RX5 59 yX5_step, Cond.instanceMethod yX5_step, Cond.selects RX5 yX5_step yX5_step, Cond.code yX5_step cX5_step 2 none, Cond.methodLink RX5 88 yX5_record, Cond.instanceMethod yX5_record, Cond.selects RX5 yX5_record yX5_record, Cond.code yX5_record cX5_record 3 none, Cond.methodLink RX5 150 yX5_set, Cond.instanceMethod yX5_set, Cond.selects RX5 yX5_set yX5_set, Cond.code yX5_set cX5_set 4 (some .int), Cond.methodLink RX5 95 yX5_isSetting, Cond.static yX5_isSetting, Cond.code yX5_isSetting cX5_isSetting 1 (some .boolean), Cond.methodLink RX5 99 yX5_lowest, Cond.static yX5_lowest, Cond.code yX5_lowest cX5_lowest 1 (some .int), Cond.methodLink RX5 102 yX5_highest, Cond.static yX5_highest, Cond.code yX5_highest cX5_highest 1 (some .int)]
def wsX5_does_r5 : List Cond := [Cond.constant RX5 30 (60000)]
def wsX5_does : List Cond := .code yX5_does cX5_does 3 (some .boolean) :: ((wsX5_does_r1 ++ (wsX5_does_r2 ++ (wsX5_does_r3 ++ (wsX5_does_r4 ++ wsX5_does_r5)))) ++ wsX50)
def wsX5_play_r1 : List Cond := [Cond.fieldLink RX5 111 "PhaseConverterModel" "length" "I", Cond.fieldLink RX5 123 "PhaseConverterModel" "step" "I", Cond.fieldLink RX5 26 "PhaseConverterModel" "thrown" "I", Cond.fieldLink RX5 131 "PhaseConverterModel" "items" "I", Cond.fieldLink RX5 19 "PhaseConverterModel" "read" "[I", Cond.methodLink RX5 137 yX5_readText, Cond.instanceMethod yX5_readText, Cond.selects RX5 yX5_readText yX5_readText, Cond.initialized RX5, Cond.code yX5_readText cX5_readText 2 (some .int), Cond.fieldLink RX5 16 "PhaseConverterModel" "text" "[I", Cond.methodLink RX5 134 yX5_takes, Cond.instanceMethod yX5_takes, Cond.selects RX5 yX5_takes yX5_takes, Cond.code yX5_takes cX5_takes 3 (some .boolean), Cond.fieldLink RX5 117 "PhaseConverterModel" "number" "I", Cond.fieldLink RX5 120 "PhaseConverterModel" "digits" "I", Cond.methodLink RX5 91 yX5_within, Cond.static yX5_within, Cond.code yX5_within cX5_within 3 (some .boolean), Cond.methodLink RX5 125 yX5_takesSign, Cond.instanceMethod yX5_takesSign, Cond.selects RX5 yX5_takesSign yX5_takesSign, Cond.code yX5_takesSign cX5_takesSign 4 (some .boolean)]
def wsX5_play_r2 : List Cond := [Cond.fieldLink RX5 114 "PhaseConverterModel" "sign" "I", Cond.methodLink RX5 128 yX5_endItem, Cond.instanceMethod yX5_endItem, Cond.selects RX5 yX5_endItem yX5_endItem, Cond.code yX5_endItem cX5_endItem 1 none, Cond.methodLink RX5 153 yX5_does, Cond.instanceMethod yX5_does, Cond.selects RX5 yX5_does yX5_does, Cond.code yX5_does cX5_does 3 (some .boolean), Cond.methodLink RX5 141 yX5_start, Cond.instanceMethod yX5_start, Cond.selects RX5 yX5_start yX5_start, Cond.code yX5_start cX5_start 2 (some .int), Cond.fieldLink RX5 7 "PhaseConverterModel" "z" "[I", Cond.methodLink RX5 51 yX5_runs, Cond.instanceMethod yX5_runs, Cond.selects RX5 yX5_runs yX5_runs, Cond.code yX5_runs cX5_runs 1 (some .boolean), Cond.methodLink RX5 35 yX5_at, Cond.static yX5_at, Cond.code yX5_at cX5_at 2 (some .int), Cond.methodLink RX5 144 yX5_stop, Cond.instanceMethod yX5_stop, Cond.selects RX5 yX5_stop yX5_stop]
def wsX5_play_r3 : List Cond := [Cond.code yX5_stop cX5_stop 2 (some .int), Cond.methodLink RX5 66 yX5_stopTo, Cond.instanceMethod yX5_stopTo, Cond.selects RX5 yX5_stopTo yX5_stopTo, Cond.code yX5_stopTo cX5_stopTo 3 none, Cond.methodLink RX5 147 yX5_run, Cond.instanceMethod yX5_run, Cond.selects RX5 yX5_run yX5_run, Cond.code yX5_run cX5_run 3 (some .int), Cond.constant RX5 40 (100000), Cond.methodLink RX5 105 yX5_layExtremes, Cond.instanceMethod yX5_layExtremes, Cond.selects RX5 yX5_layExtremes yX5_layExtremes, Cond.code yX5_layExtremes cX5_layExtremes 1 none, Cond.constant RX5 75 (1000000), Cond.fieldLink RX5 69 "PhaseConverterModel" "least" "I", Cond.fieldLink RX5 72 "PhaseConverterModel" "most" "I", Cond.fieldLink RX5 62 "PhaseConverterModel" "strongest" "I", Cond.methodLink RX5 108 yX5_cycle, Cond.instanceMethod yX5_cycle, Cond.selects RX5 yX5_cycle yX5_cycle, Cond.code yX5_cycle cX5_cycle 7 none, Cond.methodLink RX5 76 yX5_aim, Cond.instanceMethod yX5_aim]
def wsX5_play_r4 : List Cond := [Cond.selects RX5 yX5_aim yX5_aim, Cond.code yX5_aim cX5_aim 1 none, Cond.methodLink RX5 79 yX5_regulate, Cond.instanceMethod yX5_regulate, Cond.selects RX5 yX5_regulate yX5_regulate, Cond.code yX5_regulate cX5_regulate 2 none, Cond.constant RX5 39 (-100000), Cond.methodLink RX5 41 yX5_clamped, Cond.static yX5_clamped, Cond.code yX5_clamped cX5_clamped 3 (some .int), Cond.methodLink RX5 82 yX5_choosePhases, Cond.instanceMethod yX5_choosePhases, Cond.selects RX5 yX5_choosePhases yX5_choosePhases, Cond.code yX5_choosePhases cX5_choosePhases 3 none, Cond.methodLink RX5 45 yX5_changePhases, Cond.instanceMethod yX5_changePhases, Cond.selects RX5 yX5_changePhases yX5_changePhases, Cond.code yX5_changePhases cX5_changePhases 2 none, Cond.methodLink RX5 85 yX5_slot, Cond.instanceMethod yX5_slot, Cond.selects RX5 yX5_slot yX5_slot, Cond.code yX5_slot cX5_slot 4 none, Cond.constant RX5 65 (40000), Cond.methodLink RX5 55 yX5_beginPulse]
def wsX5_play_r5 : List Cond := [Cond.instanceMethod yX5_beginPulse, Cond.selects RX5 yX5_beginPulse yX5_beginPulse, Cond.code yX5_beginPulse cX5_beginPulse 6 none, Cond.methodLink RX5 48 yX5_sum, Cond.instanceMethod yX5_sum, Cond.selects RX5 yX5_sum yX5_sum, Cond.code yX5_sum cX5_sum 4 (some .int), Cond.methodLink RX5 59 yX5_step, Cond.instanceMethod yX5_step, Cond.selects RX5 yX5_step yX5_step, Cond.code yX5_step cX5_step 2 none, Cond.methodLink RX5 88 yX5_record, Cond.instanceMethod yX5_record, Cond.selects RX5 yX5_record yX5_record, Cond.code yX5_record cX5_record 3 none, Cond.methodLink RX5 150 yX5_set, Cond.instanceMethod yX5_set, Cond.selects RX5 yX5_set yX5_set, Cond.code yX5_set cX5_set 4 (some .int), Cond.methodLink RX5 95 yX5_isSetting, Cond.static yX5_isSetting, Cond.code yX5_isSetting cX5_isSetting 1 (some .boolean), Cond.methodLink RX5 99 yX5_lowest, Cond.static yX5_lowest]
def wsX5_play_r6 : List Cond := [Cond.code yX5_lowest cX5_lowest 1 (some .int), Cond.methodLink RX5 102 yX5_highest, Cond.static yX5_highest, Cond.code yX5_highest cX5_highest 1 (some .int), Cond.constant RX5 30 (60000)]
def wsX5_play : List Cond := .code yX5_play cX5_play 3 (some .int) :: ((wsX5_play_r1 ++ (wsX5_play_r2 ++ (wsX5_play_r3 ++ (wsX5_play_r4 ++ (wsX5_play_r5 ++ wsX5_play_r6))))) ++ wsX50)
def wsX5_place : List Cond := .code yX5_place cX5_place 1 (some .int) :: ([])
def wsX5_count : List Cond := .code yX5_count cX5_count 2 (some .int) :: ([.fieldLink RX5 26 "PhaseConverterModel" "thrown" "I", .fieldLink RX5 7 "PhaseConverterModel" "z" "[I", .methodLink RX5 91 yX5_within, .static yX5_within, .initialized RX5, .code yX5_within cX5_within 3 (some .boolean), .methodLink RX5 157 yX5_place, .static yX5_place, .code yX5_place cX5_place 1 (some .int)] ++ wsX50)
def wsX5_phase : List Cond := .code yX5_phase cX5_phase 3 (some .int) :: ([.fieldLink RX5 7 "PhaseConverterModel" "z" "[I", .fieldLink RX5 26 "PhaseConverterModel" "thrown" "I", .methodLink RX5 91 yX5_within, .static yX5_within, .initialized RX5, .code yX5_within cX5_within 3 (some .boolean), .methodLink RX5 35 yX5_at, .static yX5_at, .code yX5_at cX5_at 2 (some .int)] ++ wsX50)
def wsX5_record_ : List Cond := .code yX5_record_ cX5_record_ 3 (some .int) :: ([.fieldLink RX5 7 "PhaseConverterModel" "z" "[I", .fieldLink RX5 26 "PhaseConverterModel" "thrown" "I", .methodLink RX5 91 yX5_within, .static yX5_within, .initialized RX5, .code yX5_within cX5_within 3 (some .boolean)] ++ wsX50)
def wsX5_keep : List Cond := .code yX5_keep cX5_keep 2 none :: ([.fieldLink RX5 13 "PhaseConverterModel" "aside" "[I", .fieldLink RX5 7 "PhaseConverterModel" "z" "[I", .methodLink RX5 105 yX5_layExtremes, .instanceMethod yX5_layExtremes, .selects RX5 yX5_layExtremes yX5_layExtremes, .initialized RX5, .code yX5_layExtremes cX5_layExtremes 1 none, .constant RX5 75 (1000000), .fieldLink RX5 69 "PhaseConverterModel" "least" "I", .fieldLink RX5 72 "PhaseConverterModel" "most" "I", .fieldLink RX5 62 "PhaseConverterModel" "strongest" "I"] ++ wsX50)
def wsX5_takeBack : List Cond := .code yX5_takeBack cX5_takeBack 2 none :: ([.fieldLink RX5 7 "PhaseConverterModel" "z" "[I", .fieldLink RX5 13 "PhaseConverterModel" "aside" "[I"] ++ wsX50)
def wsX5_ifLoaded_r1 : List Cond := [Cond.constant RX5 30 (60000), Cond.fieldLink RX5 26 "PhaseConverterModel" "thrown" "I", Cond.fieldLink RX5 7 "PhaseConverterModel" "z" "[I", Cond.fieldLink RX5 69 "PhaseConverterModel" "least" "I", Cond.fieldLink RX5 72 "PhaseConverterModel" "most" "I", Cond.fieldLink RX5 62 "PhaseConverterModel" "strongest" "I", Cond.methodLink RX5 91 yX5_within, Cond.static yX5_within, Cond.initialized RX5, Cond.code yX5_within cX5_within 3 (some .boolean), Cond.methodLink RX5 160 yX5_keep, Cond.instanceMethod yX5_keep, Cond.selects RX5 yX5_keep yX5_keep, Cond.code yX5_keep cX5_keep 2 none, Cond.fieldLink RX5 13 "PhaseConverterModel" "aside" "[I", Cond.methodLink RX5 105 yX5_layExtremes, Cond.instanceMethod yX5_layExtremes, Cond.selects RX5 yX5_layExtremes yX5_layExtremes, Cond.code yX5_layExtremes cX5_layExtremes 1 none, Cond.constant RX5 75 (1000000), Cond.methodLink RX5 108 yX5_cycle, Cond.instanceMethod yX5_cycle, Cond.selects RX5 yX5_cycle yX5_cycle, Cond.code yX5_cycle cX5_cycle 7 none]
def wsX5_ifLoaded_r2 : List Cond := [Cond.methodLink RX5 51 yX5_runs, Cond.instanceMethod yX5_runs, Cond.selects RX5 yX5_runs yX5_runs, Cond.code yX5_runs cX5_runs 1 (some .boolean), Cond.methodLink RX5 66 yX5_stopTo, Cond.instanceMethod yX5_stopTo, Cond.selects RX5 yX5_stopTo yX5_stopTo, Cond.code yX5_stopTo cX5_stopTo 3 none, Cond.methodLink RX5 35 yX5_at, Cond.static yX5_at, Cond.code yX5_at cX5_at 2 (some .int), Cond.methodLink RX5 76 yX5_aim, Cond.instanceMethod yX5_aim, Cond.selects RX5 yX5_aim yX5_aim, Cond.code yX5_aim cX5_aim 1 none, Cond.methodLink RX5 79 yX5_regulate, Cond.instanceMethod yX5_regulate, Cond.selects RX5 yX5_regulate yX5_regulate, Cond.code yX5_regulate cX5_regulate 2 none, Cond.constant RX5 39 (-100000), Cond.constant RX5 40 (100000), Cond.methodLink RX5 41 yX5_clamped, Cond.static yX5_clamped, Cond.code yX5_clamped cX5_clamped 3 (some .int)]
def wsX5_ifLoaded_r3 : List Cond := [Cond.methodLink RX5 82 yX5_choosePhases, Cond.instanceMethod yX5_choosePhases, Cond.selects RX5 yX5_choosePhases yX5_choosePhases, Cond.code yX5_choosePhases cX5_choosePhases 3 none, Cond.methodLink RX5 45 yX5_changePhases, Cond.instanceMethod yX5_changePhases, Cond.selects RX5 yX5_changePhases yX5_changePhases, Cond.code yX5_changePhases cX5_changePhases 2 none, Cond.methodLink RX5 85 yX5_slot, Cond.instanceMethod yX5_slot, Cond.selects RX5 yX5_slot yX5_slot, Cond.code yX5_slot cX5_slot 4 none, Cond.constant RX5 65 (40000), Cond.methodLink RX5 55 yX5_beginPulse, Cond.instanceMethod yX5_beginPulse, Cond.selects RX5 yX5_beginPulse yX5_beginPulse, Cond.code yX5_beginPulse cX5_beginPulse 6 none, Cond.methodLink RX5 48 yX5_sum, Cond.instanceMethod yX5_sum, Cond.selects RX5 yX5_sum yX5_sum, Cond.code yX5_sum cX5_sum 4 (some .int), Cond.methodLink RX5 59 yX5_step, Cond.instanceMethod yX5_step, Cond.selects RX5 yX5_step yX5_step]
def wsX5_ifLoaded_r4 : List Cond := [Cond.code yX5_step cX5_step 2 none, Cond.methodLink RX5 88 yX5_record, Cond.instanceMethod yX5_record, Cond.selects RX5 yX5_record yX5_record, Cond.code yX5_record cX5_record 3 none, Cond.methodLink RX5 163 yX5_takeBack, Cond.instanceMethod yX5_takeBack, Cond.selects RX5 yX5_takeBack yX5_takeBack, Cond.code yX5_takeBack cX5_takeBack 2 none]
def wsX5_ifLoaded : List Cond := .code yX5_ifLoaded cX5_ifLoaded 5 (some .int) :: ((wsX5_ifLoaded_r1 ++ (wsX5_ifLoaded_r2 ++ (wsX5_ifLoaded_r3 ++ wsX5_ifLoaded_r4))) ++ wsX50)
def wsX5_settledAt_r1 : List Cond := [Cond.fieldLink RX5 7 "PhaseConverterModel" "z" "[I", Cond.methodLink RX5 160 yX5_keep, Cond.instanceMethod yX5_keep, Cond.selects RX5 yX5_keep yX5_keep, Cond.initialized RX5, Cond.code yX5_keep cX5_keep 2 none, Cond.fieldLink RX5 13 "PhaseConverterModel" "aside" "[I", Cond.methodLink RX5 105 yX5_layExtremes, Cond.instanceMethod yX5_layExtremes, Cond.selects RX5 yX5_layExtremes yX5_layExtremes, Cond.code yX5_layExtremes cX5_layExtremes 1 none, Cond.constant RX5 75 (1000000), Cond.fieldLink RX5 69 "PhaseConverterModel" "least" "I", Cond.fieldLink RX5 72 "PhaseConverterModel" "most" "I", Cond.fieldLink RX5 62 "PhaseConverterModel" "strongest" "I", Cond.methodLink RX5 108 yX5_cycle, Cond.instanceMethod yX5_cycle, Cond.selects RX5 yX5_cycle yX5_cycle, Cond.code yX5_cycle cX5_cycle 7 none, Cond.methodLink RX5 51 yX5_runs, Cond.instanceMethod yX5_runs, Cond.selects RX5 yX5_runs yX5_runs, Cond.code yX5_runs cX5_runs 1 (some .boolean), Cond.methodLink RX5 66 yX5_stopTo]
def wsX5_settledAt_r2 : List Cond := [Cond.instanceMethod yX5_stopTo, Cond.selects RX5 yX5_stopTo yX5_stopTo, Cond.code yX5_stopTo cX5_stopTo 3 none, Cond.methodLink RX5 35 yX5_at, Cond.static yX5_at, Cond.code yX5_at cX5_at 2 (some .int), Cond.methodLink RX5 76 yX5_aim, Cond.instanceMethod yX5_aim, Cond.selects RX5 yX5_aim yX5_aim, Cond.code yX5_aim cX5_aim 1 none, Cond.methodLink RX5 79 yX5_regulate, Cond.instanceMethod yX5_regulate, Cond.selects RX5 yX5_regulate yX5_regulate, Cond.code yX5_regulate cX5_regulate 2 none, Cond.constant RX5 39 (-100000), Cond.constant RX5 40 (100000), Cond.methodLink RX5 41 yX5_clamped, Cond.static yX5_clamped, Cond.code yX5_clamped cX5_clamped 3 (some .int), Cond.methodLink RX5 82 yX5_choosePhases, Cond.instanceMethod yX5_choosePhases, Cond.selects RX5 yX5_choosePhases yX5_choosePhases, Cond.code yX5_choosePhases cX5_choosePhases 3 none, Cond.methodLink RX5 45 yX5_changePhases]
def wsX5_settledAt_r3 : List Cond := [Cond.instanceMethod yX5_changePhases, Cond.selects RX5 yX5_changePhases yX5_changePhases, Cond.code yX5_changePhases cX5_changePhases 2 none, Cond.methodLink RX5 85 yX5_slot, Cond.instanceMethod yX5_slot, Cond.selects RX5 yX5_slot yX5_slot, Cond.code yX5_slot cX5_slot 4 none, Cond.constant RX5 65 (40000), Cond.methodLink RX5 55 yX5_beginPulse, Cond.instanceMethod yX5_beginPulse, Cond.selects RX5 yX5_beginPulse yX5_beginPulse, Cond.code yX5_beginPulse cX5_beginPulse 6 none, Cond.methodLink RX5 48 yX5_sum, Cond.instanceMethod yX5_sum, Cond.selects RX5 yX5_sum yX5_sum, Cond.code yX5_sum cX5_sum 4 (some .int), Cond.methodLink RX5 59 yX5_step, Cond.instanceMethod yX5_step, Cond.selects RX5 yX5_step yX5_step, Cond.code yX5_step cX5_step 2 none, Cond.methodLink RX5 88 yX5_record, Cond.instanceMethod yX5_record, Cond.selects RX5 yX5_record yX5_record, Cond.code yX5_record cX5_record 3 none]
def wsX5_settledAt_r4 : List Cond := [Cond.methodLink RX5 91 yX5_within, Cond.static yX5_within, Cond.code yX5_within cX5_within 3 (some .boolean), Cond.methodLink RX5 163 yX5_takeBack, Cond.instanceMethod yX5_takeBack, Cond.selects RX5 yX5_takeBack yX5_takeBack, Cond.code yX5_takeBack cX5_takeBack 2 none]
def wsX5_settledAt : List Cond := .code yX5_settledAt cX5_settledAt 4 (some .int) :: ((wsX5_settledAt_r1 ++ (wsX5_settledAt_r2 ++ (wsX5_settledAt_r3 ++ wsX5_settledAt_r4))) ++ wsX50)
def wsX5_settles_r1 : List Cond := [Cond.fieldLink RX5 26 "PhaseConverterModel" "thrown" "I", Cond.methodLink RX5 91 yX5_within, Cond.static yX5_within, Cond.initialized RX5, Cond.code yX5_within cX5_within 3 (some .boolean), Cond.methodLink RX5 166 yX5_settledAt, Cond.instanceMethod yX5_settledAt, Cond.selects RX5 yX5_settledAt yX5_settledAt, Cond.code yX5_settledAt cX5_settledAt 4 (some .int), Cond.fieldLink RX5 7 "PhaseConverterModel" "z" "[I", Cond.methodLink RX5 160 yX5_keep, Cond.instanceMethod yX5_keep, Cond.selects RX5 yX5_keep yX5_keep, Cond.code yX5_keep cX5_keep 2 none, Cond.fieldLink RX5 13 "PhaseConverterModel" "aside" "[I", Cond.methodLink RX5 105 yX5_layExtremes, Cond.instanceMethod yX5_layExtremes, Cond.selects RX5 yX5_layExtremes yX5_layExtremes, Cond.code yX5_layExtremes cX5_layExtremes 1 none, Cond.constant RX5 75 (1000000), Cond.fieldLink RX5 69 "PhaseConverterModel" "least" "I", Cond.fieldLink RX5 72 "PhaseConverterModel" "most" "I", Cond.fieldLink RX5 62 "PhaseConverterModel" "strongest" "I", Cond.methodLink RX5 108 yX5_cycle]
def wsX5_settles_r2 : List Cond := [Cond.instanceMethod yX5_cycle, Cond.selects RX5 yX5_cycle yX5_cycle, Cond.code yX5_cycle cX5_cycle 7 none, Cond.methodLink RX5 51 yX5_runs, Cond.instanceMethod yX5_runs, Cond.selects RX5 yX5_runs yX5_runs, Cond.code yX5_runs cX5_runs 1 (some .boolean), Cond.methodLink RX5 66 yX5_stopTo, Cond.instanceMethod yX5_stopTo, Cond.selects RX5 yX5_stopTo yX5_stopTo, Cond.code yX5_stopTo cX5_stopTo 3 none, Cond.methodLink RX5 35 yX5_at, Cond.static yX5_at, Cond.code yX5_at cX5_at 2 (some .int), Cond.methodLink RX5 76 yX5_aim, Cond.instanceMethod yX5_aim, Cond.selects RX5 yX5_aim yX5_aim, Cond.code yX5_aim cX5_aim 1 none, Cond.methodLink RX5 79 yX5_regulate, Cond.instanceMethod yX5_regulate, Cond.selects RX5 yX5_regulate yX5_regulate, Cond.code yX5_regulate cX5_regulate 2 none, Cond.constant RX5 39 (-100000), Cond.constant RX5 40 (100000)]
def wsX5_settles_r3 : List Cond := [Cond.methodLink RX5 41 yX5_clamped, Cond.static yX5_clamped, Cond.code yX5_clamped cX5_clamped 3 (some .int), Cond.methodLink RX5 82 yX5_choosePhases, Cond.instanceMethod yX5_choosePhases, Cond.selects RX5 yX5_choosePhases yX5_choosePhases, Cond.code yX5_choosePhases cX5_choosePhases 3 none, Cond.methodLink RX5 45 yX5_changePhases, Cond.instanceMethod yX5_changePhases, Cond.selects RX5 yX5_changePhases yX5_changePhases, Cond.code yX5_changePhases cX5_changePhases 2 none, Cond.methodLink RX5 85 yX5_slot, Cond.instanceMethod yX5_slot, Cond.selects RX5 yX5_slot yX5_slot, Cond.code yX5_slot cX5_slot 4 none, Cond.constant RX5 65 (40000), Cond.methodLink RX5 55 yX5_beginPulse, Cond.instanceMethod yX5_beginPulse, Cond.selects RX5 yX5_beginPulse yX5_beginPulse, Cond.code yX5_beginPulse cX5_beginPulse 6 none, Cond.methodLink RX5 48 yX5_sum, Cond.instanceMethod yX5_sum, Cond.selects RX5 yX5_sum yX5_sum, Cond.code yX5_sum cX5_sum 4 (some .int)]
def wsX5_settles_r4 : List Cond := [Cond.methodLink RX5 59 yX5_step, Cond.instanceMethod yX5_step, Cond.selects RX5 yX5_step yX5_step, Cond.code yX5_step cX5_step 2 none, Cond.methodLink RX5 88 yX5_record, Cond.instanceMethod yX5_record, Cond.selects RX5 yX5_record yX5_record, Cond.code yX5_record cX5_record 3 none, Cond.methodLink RX5 163 yX5_takeBack, Cond.instanceMethod yX5_takeBack, Cond.selects RX5 yX5_takeBack yX5_takeBack, Cond.code yX5_takeBack cX5_takeBack 2 none]
def wsX5_settles : List Cond := .code yX5_settles cX5_settles 2 (some .int) :: ((wsX5_settles_r1 ++ (wsX5_settles_r2 ++ (wsX5_settles_r3 ++ wsX5_settles_r4))) ++ wsX50)
def wsX5_holds_r1 : List Cond := [Cond.fieldLink RX5 7 "PhaseConverterModel" "z" "[I", Cond.fieldLink RX5 69 "PhaseConverterModel" "least" "I", Cond.methodLink RX5 160 yX5_keep, Cond.instanceMethod yX5_keep, Cond.selects RX5 yX5_keep yX5_keep, Cond.initialized RX5, Cond.code yX5_keep cX5_keep 2 none, Cond.fieldLink RX5 13 "PhaseConverterModel" "aside" "[I", Cond.methodLink RX5 105 yX5_layExtremes, Cond.instanceMethod yX5_layExtremes, Cond.selects RX5 yX5_layExtremes yX5_layExtremes, Cond.code yX5_layExtremes cX5_layExtremes 1 none, Cond.constant RX5 75 (1000000), Cond.fieldLink RX5 72 "PhaseConverterModel" "most" "I", Cond.fieldLink RX5 62 "PhaseConverterModel" "strongest" "I", Cond.methodLink RX5 108 yX5_cycle, Cond.instanceMethod yX5_cycle, Cond.selects RX5 yX5_cycle yX5_cycle, Cond.code yX5_cycle cX5_cycle 7 none, Cond.methodLink RX5 51 yX5_runs, Cond.instanceMethod yX5_runs, Cond.selects RX5 yX5_runs yX5_runs, Cond.code yX5_runs cX5_runs 1 (some .boolean), Cond.methodLink RX5 66 yX5_stopTo]
def wsX5_holds_r2 : List Cond := [Cond.instanceMethod yX5_stopTo, Cond.selects RX5 yX5_stopTo yX5_stopTo, Cond.code yX5_stopTo cX5_stopTo 3 none, Cond.methodLink RX5 35 yX5_at, Cond.static yX5_at, Cond.code yX5_at cX5_at 2 (some .int), Cond.methodLink RX5 76 yX5_aim, Cond.instanceMethod yX5_aim, Cond.selects RX5 yX5_aim yX5_aim, Cond.code yX5_aim cX5_aim 1 none, Cond.methodLink RX5 79 yX5_regulate, Cond.instanceMethod yX5_regulate, Cond.selects RX5 yX5_regulate yX5_regulate, Cond.code yX5_regulate cX5_regulate 2 none, Cond.constant RX5 39 (-100000), Cond.constant RX5 40 (100000), Cond.methodLink RX5 41 yX5_clamped, Cond.static yX5_clamped, Cond.code yX5_clamped cX5_clamped 3 (some .int), Cond.methodLink RX5 82 yX5_choosePhases, Cond.instanceMethod yX5_choosePhases, Cond.selects RX5 yX5_choosePhases yX5_choosePhases, Cond.code yX5_choosePhases cX5_choosePhases 3 none, Cond.methodLink RX5 45 yX5_changePhases]
def wsX5_holds_r3 : List Cond := [Cond.instanceMethod yX5_changePhases, Cond.selects RX5 yX5_changePhases yX5_changePhases, Cond.code yX5_changePhases cX5_changePhases 2 none, Cond.methodLink RX5 85 yX5_slot, Cond.instanceMethod yX5_slot, Cond.selects RX5 yX5_slot yX5_slot, Cond.code yX5_slot cX5_slot 4 none, Cond.constant RX5 65 (40000), Cond.methodLink RX5 55 yX5_beginPulse, Cond.instanceMethod yX5_beginPulse, Cond.selects RX5 yX5_beginPulse yX5_beginPulse, Cond.code yX5_beginPulse cX5_beginPulse 6 none, Cond.methodLink RX5 48 yX5_sum, Cond.instanceMethod yX5_sum, Cond.selects RX5 yX5_sum yX5_sum, Cond.code yX5_sum cX5_sum 4 (some .int), Cond.methodLink RX5 59 yX5_step, Cond.instanceMethod yX5_step, Cond.selects RX5 yX5_step yX5_step, Cond.code yX5_step cX5_step 2 none, Cond.methodLink RX5 88 yX5_record, Cond.instanceMethod yX5_record, Cond.selects RX5 yX5_record yX5_record, Cond.code yX5_record cX5_record 3 none]
def wsX5_holds_r4 : List Cond := [Cond.methodLink RX5 163 yX5_takeBack, Cond.instanceMethod yX5_takeBack, Cond.selects RX5 yX5_takeBack yX5_takeBack, Cond.code yX5_takeBack cX5_takeBack 2 none]
def wsX5_holds : List Cond := .code yX5_holds cX5_holds 4 (some .boolean) :: ((wsX5_holds_r1 ++ (wsX5_holds_r2 ++ (wsX5_holds_r3 ++ wsX5_holds_r4))) ++ wsX50)
def wsX5_greatestLoad_r1 : List Cond := [Cond.constant RX5 65 (40000), Cond.fieldLink RX5 26 "PhaseConverterModel" "thrown" "I", Cond.methodLink RX5 91 yX5_within, Cond.static yX5_within, Cond.initialized RX5, Cond.code yX5_within cX5_within 3 (some .boolean), Cond.methodLink RX5 169 yX5_holds, Cond.instanceMethod yX5_holds, Cond.selects RX5 yX5_holds yX5_holds, Cond.code yX5_holds cX5_holds 4 (some .boolean), Cond.fieldLink RX5 7 "PhaseConverterModel" "z" "[I", Cond.fieldLink RX5 69 "PhaseConverterModel" "least" "I", Cond.methodLink RX5 160 yX5_keep, Cond.instanceMethod yX5_keep, Cond.selects RX5 yX5_keep yX5_keep, Cond.code yX5_keep cX5_keep 2 none, Cond.fieldLink RX5 13 "PhaseConverterModel" "aside" "[I", Cond.methodLink RX5 105 yX5_layExtremes, Cond.instanceMethod yX5_layExtremes, Cond.selects RX5 yX5_layExtremes yX5_layExtremes, Cond.code yX5_layExtremes cX5_layExtremes 1 none, Cond.constant RX5 75 (1000000), Cond.fieldLink RX5 72 "PhaseConverterModel" "most" "I", Cond.fieldLink RX5 62 "PhaseConverterModel" "strongest" "I"]
def wsX5_greatestLoad_r2 : List Cond := [Cond.methodLink RX5 108 yX5_cycle, Cond.instanceMethod yX5_cycle, Cond.selects RX5 yX5_cycle yX5_cycle, Cond.code yX5_cycle cX5_cycle 7 none, Cond.methodLink RX5 51 yX5_runs, Cond.instanceMethod yX5_runs, Cond.selects RX5 yX5_runs yX5_runs, Cond.code yX5_runs cX5_runs 1 (some .boolean), Cond.methodLink RX5 66 yX5_stopTo, Cond.instanceMethod yX5_stopTo, Cond.selects RX5 yX5_stopTo yX5_stopTo, Cond.code yX5_stopTo cX5_stopTo 3 none, Cond.methodLink RX5 35 yX5_at, Cond.static yX5_at, Cond.code yX5_at cX5_at 2 (some .int), Cond.methodLink RX5 76 yX5_aim, Cond.instanceMethod yX5_aim, Cond.selects RX5 yX5_aim yX5_aim, Cond.code yX5_aim cX5_aim 1 none, Cond.methodLink RX5 79 yX5_regulate, Cond.instanceMethod yX5_regulate, Cond.selects RX5 yX5_regulate yX5_regulate, Cond.code yX5_regulate cX5_regulate 2 none, Cond.constant RX5 39 (-100000)]
def wsX5_greatestLoad_r3 : List Cond := [Cond.constant RX5 40 (100000), Cond.methodLink RX5 41 yX5_clamped, Cond.static yX5_clamped, Cond.code yX5_clamped cX5_clamped 3 (some .int), Cond.methodLink RX5 82 yX5_choosePhases, Cond.instanceMethod yX5_choosePhases, Cond.selects RX5 yX5_choosePhases yX5_choosePhases, Cond.code yX5_choosePhases cX5_choosePhases 3 none, Cond.methodLink RX5 45 yX5_changePhases, Cond.instanceMethod yX5_changePhases, Cond.selects RX5 yX5_changePhases yX5_changePhases, Cond.code yX5_changePhases cX5_changePhases 2 none, Cond.methodLink RX5 85 yX5_slot, Cond.instanceMethod yX5_slot, Cond.selects RX5 yX5_slot yX5_slot, Cond.code yX5_slot cX5_slot 4 none, Cond.methodLink RX5 55 yX5_beginPulse, Cond.instanceMethod yX5_beginPulse, Cond.selects RX5 yX5_beginPulse yX5_beginPulse, Cond.code yX5_beginPulse cX5_beginPulse 6 none, Cond.methodLink RX5 48 yX5_sum, Cond.instanceMethod yX5_sum, Cond.selects RX5 yX5_sum yX5_sum, Cond.code yX5_sum cX5_sum 4 (some .int)]
def wsX5_greatestLoad_r4 : List Cond := [Cond.methodLink RX5 59 yX5_step, Cond.instanceMethod yX5_step, Cond.selects RX5 yX5_step yX5_step, Cond.code yX5_step cX5_step 2 none, Cond.methodLink RX5 88 yX5_record, Cond.instanceMethod yX5_record, Cond.selects RX5 yX5_record yX5_record, Cond.code yX5_record cX5_record 3 none, Cond.methodLink RX5 163 yX5_takeBack, Cond.instanceMethod yX5_takeBack, Cond.selects RX5 yX5_takeBack yX5_takeBack, Cond.code yX5_takeBack cX5_takeBack 2 none]
def wsX5_greatestLoad : List Cond := .code yX5_greatestLoad cX5_greatestLoad 3 (some .int) :: ((wsX5_greatestLoad_r1 ++ (wsX5_greatestLoad_r2 ++ (wsX5_greatestLoad_r3 ++ wsX5_greatestLoad_r4))) ++ wsX50)
def wsX5_unlike : List Cond := .code yX5_unlike cX5_unlike 5 (some .int) :: ([.fieldLink RX5 7 "PhaseConverterModel" "z" "[I", .methodLink RX5 35 yX5_at, .static yX5_at, .initialized RX5, .code yX5_at cX5_at 2 (some .int)] ++ wsX50)
def wsX5_unbalance : List Cond := .code yX5_unbalance cX5_unbalance 1 (some .int) :: ([.fieldLink RX5 26 "PhaseConverterModel" "thrown" "I", .methodLink RX5 172 yX5_unlike, .instanceMethod yX5_unlike, .selects RX5 yX5_unlike yX5_unlike, .initialized RX5, .code yX5_unlike cX5_unlike 5 (some .int), .fieldLink RX5 7 "PhaseConverterModel" "z" "[I", .methodLink RX5 35 yX5_at, .static yX5_at, .code yX5_at cX5_at 2 (some .int)] ++ wsX50)
def wsX5_meanVoltage : List Cond := .code yX5_meanVoltage cX5_meanVoltage 3 (some .double) :: ([.fieldLink RX5 26 "PhaseConverterModel" "thrown" "I", .fieldLink RX5 7 "PhaseConverterModel" "z" "[I"] ++ wsX50)
def wsX5_mix : List Cond := .code yX5_mix cX5_mix 3 none :: ([.constantLong RX5 175 (31), .fieldLink RX5 177 "PhaseConverterModel" "h" "J"] ++ wsX50)
def wsX5_digest_r1 : List Cond := [Cond.fieldLink RX5 26 "PhaseConverterModel" "thrown" "I", Cond.constantLong RX5 181 (2017), Cond.fieldLink RX5 177 "PhaseConverterModel" "h" "J", Cond.fieldLink RX5 7 "PhaseConverterModel" "z" "[I", Cond.fieldLink RX5 111 "PhaseConverterModel" "length" "I", Cond.fieldLink RX5 16 "PhaseConverterModel" "text" "[I", Cond.methodLink RX5 157 yX5_place, Cond.static yX5_place, Cond.initialized RX5, Cond.code yX5_place cX5_place 1 (some .int), Cond.methodLink RX5 183 yX5_mix, Cond.instanceMethod yX5_mix, Cond.selects RX5 yX5_mix yX5_mix, Cond.code yX5_mix cX5_mix 3 none, Cond.constantLong RX5 175 (31), Cond.methodLink RX5 166 yX5_settledAt, Cond.instanceMethod yX5_settledAt, Cond.selects RX5 yX5_settledAt yX5_settledAt, Cond.code yX5_settledAt cX5_settledAt 4 (some .int), Cond.methodLink RX5 160 yX5_keep, Cond.instanceMethod yX5_keep, Cond.selects RX5 yX5_keep yX5_keep, Cond.code yX5_keep cX5_keep 2 none, Cond.fieldLink RX5 13 "PhaseConverterModel" "aside" "[I"]
def wsX5_digest_r2 : List Cond := [Cond.methodLink RX5 105 yX5_layExtremes, Cond.instanceMethod yX5_layExtremes, Cond.selects RX5 yX5_layExtremes yX5_layExtremes, Cond.code yX5_layExtremes cX5_layExtremes 1 none, Cond.constant RX5 75 (1000000), Cond.fieldLink RX5 69 "PhaseConverterModel" "least" "I", Cond.fieldLink RX5 72 "PhaseConverterModel" "most" "I", Cond.fieldLink RX5 62 "PhaseConverterModel" "strongest" "I", Cond.methodLink RX5 108 yX5_cycle, Cond.instanceMethod yX5_cycle, Cond.selects RX5 yX5_cycle yX5_cycle, Cond.code yX5_cycle cX5_cycle 7 none, Cond.methodLink RX5 51 yX5_runs, Cond.instanceMethod yX5_runs, Cond.selects RX5 yX5_runs yX5_runs, Cond.code yX5_runs cX5_runs 1 (some .boolean), Cond.methodLink RX5 66 yX5_stopTo, Cond.instanceMethod yX5_stopTo, Cond.selects RX5 yX5_stopTo yX5_stopTo, Cond.code yX5_stopTo cX5_stopTo 3 none, Cond.methodLink RX5 35 yX5_at, Cond.static yX5_at, Cond.code yX5_at cX5_at 2 (some .int), Cond.methodLink RX5 76 yX5_aim]
def wsX5_digest_r3 : List Cond := [Cond.instanceMethod yX5_aim, Cond.selects RX5 yX5_aim yX5_aim, Cond.code yX5_aim cX5_aim 1 none, Cond.methodLink RX5 79 yX5_regulate, Cond.instanceMethod yX5_regulate, Cond.selects RX5 yX5_regulate yX5_regulate, Cond.code yX5_regulate cX5_regulate 2 none, Cond.constant RX5 39 (-100000), Cond.constant RX5 40 (100000), Cond.methodLink RX5 41 yX5_clamped, Cond.static yX5_clamped, Cond.code yX5_clamped cX5_clamped 3 (some .int), Cond.methodLink RX5 82 yX5_choosePhases, Cond.instanceMethod yX5_choosePhases, Cond.selects RX5 yX5_choosePhases yX5_choosePhases, Cond.code yX5_choosePhases cX5_choosePhases 3 none, Cond.methodLink RX5 45 yX5_changePhases, Cond.instanceMethod yX5_changePhases, Cond.selects RX5 yX5_changePhases yX5_changePhases, Cond.code yX5_changePhases cX5_changePhases 2 none, Cond.methodLink RX5 85 yX5_slot, Cond.instanceMethod yX5_slot, Cond.selects RX5 yX5_slot yX5_slot, Cond.code yX5_slot cX5_slot 4 none]
def wsX5_digest_r4 : List Cond := [Cond.constant RX5 65 (40000), Cond.methodLink RX5 55 yX5_beginPulse, Cond.instanceMethod yX5_beginPulse, Cond.selects RX5 yX5_beginPulse yX5_beginPulse, Cond.code yX5_beginPulse cX5_beginPulse 6 none, Cond.methodLink RX5 48 yX5_sum, Cond.instanceMethod yX5_sum, Cond.selects RX5 yX5_sum yX5_sum, Cond.code yX5_sum cX5_sum 4 (some .int), Cond.methodLink RX5 59 yX5_step, Cond.instanceMethod yX5_step, Cond.selects RX5 yX5_step yX5_step, Cond.code yX5_step cX5_step 2 none, Cond.methodLink RX5 88 yX5_record, Cond.instanceMethod yX5_record, Cond.selects RX5 yX5_record yX5_record, Cond.code yX5_record cX5_record 3 none, Cond.methodLink RX5 91 yX5_within, Cond.static yX5_within, Cond.code yX5_within cX5_within 3 (some .boolean), Cond.methodLink RX5 163 yX5_takeBack, Cond.instanceMethod yX5_takeBack, Cond.selects RX5 yX5_takeBack yX5_takeBack, Cond.code yX5_takeBack cX5_takeBack 2 none]
def wsX5_digest_r5 : List Cond := [Cond.methodLink RX5 172 yX5_unlike, Cond.instanceMethod yX5_unlike, Cond.selects RX5 yX5_unlike yX5_unlike, Cond.code yX5_unlike cX5_unlike 5 (some .int)]
def wsX5_digest : List Cond := .code yX5_digest cX5_digest 2 (some .long) :: ((wsX5_digest_r1 ++ (wsX5_digest_r2 ++ (wsX5_digest_r3 ++ (wsX5_digest_r4 ++ wsX5_digest_r5)))) ++ wsX50)
def wsJ9_abs_0f7a4 : List Cond := .code yJ9_abs_0f7a4 cJ9_abs_0f7a4 1 (some .int) :: ([])
def wsJ9_max_7cf53 : List Cond := .code yJ9_max_7cf53 cJ9_max_7cf53 2 (some .int) :: ([])
def wsJ9_min_7cf53 : List Cond := .code yJ9_min_7cf53 cJ9_min_7cf53 2 (some .int) :: ([])
def wsL_begin_r1 : List Cond := [Cond.classLink RL 13 "java/lang/IllegalArgumentException", Cond.methodLink RL 7 yX4_begin, Cond.instanceMethod yX4_begin, Cond.selects RX4 yX4_begin yX4_begin, Cond.initialized RX4, Cond.code yX4_begin cX4_begin 3 (some .int), Cond.classLink RX4 35 "java/lang/IllegalArgumentException", Cond.initialized "java/lang/IllegalArgumentException", Cond.fieldLink RX4 14 "PhaseConverter" "plant" "LPhaseConverter$Plant;", Cond.fieldLink RX4 42 "PhaseConverter$Plant" "phaseCount" "I", Cond.fieldLink RX4 24 "PhaseConverter" "history" "LPhaseConverter$History;", Cond.methodLink RX4 46 yX2_reset, Cond.instanceMethod yX2_reset, Cond.selects RX2 yX2_reset yX2_reset, Cond.initialized RX2, Cond.code yX2_reset cX2_reset 3 none, Cond.fieldLink RX2 18 "PhaseConverter$Plant" "settings" "[I", Cond.methodLink RX2 37 arraycopyName, Cond.native arraycopyName, Cond.static arraycopyName, Cond.initialized "java/lang/System", Cond.fieldLink RX2 25 "PhaseConverter$Plant" "phases" "[LPhaseConverter$Phase;", Cond.fieldLink RX2 30 "PhaseConverter$Plant" "phaseCount" "I", Cond.fieldLink RX2 34 "PhaseConverter$Plant" "active" "I"]
def wsL_begin_r2 : List Cond := [Cond.fieldLink RX2 46 "PhaseConverter$Plant" "mode" "I", Cond.fieldLink RX2 49 "PhaseConverter$Plant" "voltage" "I", Cond.fieldLink RX2 52 "PhaseConverter$Plant" "presentTarget" "I", Cond.fieldLink RX2 55 "PhaseConverter$Plant" "integral" "I", Cond.fieldLink RX2 58 "PhaseConverter$Plant" "duty" "I", Cond.fieldLink RX2 61 "PhaseConverter$Plant" "addingCount" "I", Cond.fieldLink RX2 64 "PhaseConverter$Plant" "sheddingCount" "I", Cond.fieldLink RX2 67 "PhaseConverter$Plant" "cycles" "I", Cond.fieldLink RX2 70 "PhaseConverter$Plant" "meanCurrent" "I", Cond.fieldLink RX2 73 "PhaseConverter$Plant" "leastVoltage" "I", Cond.fieldLink RX2 76 "PhaseConverter$Plant" "greatestVoltage" "I", Cond.fieldLink RX2 79 "PhaseConverter$Plant" "peakCurrent" "I", Cond.fieldLink RX2 82 "PhaseConverter$Plant" "changes" "I", Cond.methodLink RX2 43 yX1_reset, Cond.instanceMethod yX1_reset, Cond.selects RX1 yX1_reset yX1_reset, Cond.initialized RX1, Cond.code yX1_reset cX1_reset 1 none, Cond.fieldLink RX1 9 "PhaseConverter$Phase" "current" "I", Cond.fieldLink RX1 15 "PhaseConverter$Phase" "onTime" "I", Cond.fieldLink RX1 18 "PhaseConverter$Phase" "rest" "I", Cond.fieldLink RX1 21 "PhaseConverter$Phase" "onSlots" "I", Cond.fieldLink RX1 24 "PhaseConverter$Phase" "limitEvents" "I", Cond.fieldLink RX1 27 "PhaseConverter$Phase" "skipped" "I"]
def wsL_begin_r3 : List Cond := [Cond.fieldLink RX1 30 "PhaseConverter$Phase" "pulses" "I", Cond.methodLink RX4 49 yX0_forget, Cond.instanceMethod yX0_forget, Cond.selects RX0 yX0_forget yX0_forget, Cond.initialized RX0, Cond.code yX0_forget cX0_forget 1 none, Cond.fieldLink RX0 15 "PhaseConverter$History" "size" "I", Cond.fieldLink RX0 19 "PhaseConverter$History" "newest" "I"]
def wsL_begin : List Cond := .codeWith yL_begin cL_begin 4 (some .int) [(0, 9, 12, 13)] :: ((wsL_begin_r1 ++ (wsL_begin_r2 ++ wsL_begin_r3)) ++ wsX40 ++ wsX20 ++ wsX10 ++ wsX00 ++ (vx_atS RX4 39 "java/lang/IllegalArgumentException" ["java/lang/RuntimeException", "java/lang/Exception"]).filter goodWord)
def wsL_set : List Cond := .codeWith yL_set cL_set 5 (some .int) [(0, 10, 13, 19), (0, 10, 17, 13)] :: ([.classLink RL 19 "java/lang/IndexOutOfBoundsException", .classLink RL 13 "java/lang/IllegalArgumentException", .methodLink RL 15 yX4_set, .instanceMethod yX4_set, .selects RX4 yX4_set yX4_set, .initialized RX4, .code yX4_set cX4_set 4 (some .int), .classLink RX4 56 "java/lang/IndexOutOfBoundsException", .initialized "java/lang/IndexOutOfBoundsException", .classLink RX4 35 "java/lang/IllegalArgumentException", .initialized "java/lang/IllegalArgumentException", .fieldLink RX4 14 "PhaseConverter" "plant" "LPhaseConverter$Plant;", .fieldLink RX4 67 "PhaseConverter$Plant" "settings" "[I", .methodLink RX4 52 yX4_isSetting, .static yX4_isSetting, .code yX4_isSetting cX4_isSetting 1 (some .boolean), .methodLink RX4 61 yX4_fits, .static yX4_fits, .code yX4_fits cX4_fits 2 (some .boolean), .fieldLink RX4 216 "PhaseConverter" "LEAST" "[I", .fieldLink RX4 219 "PhaseConverter" "GREATEST" "[I"] ++ wsX40 ++ wsX20 ++ (vx_atS RX4 60 "java/lang/IndexOutOfBoundsException" ["java/lang/RuntimeException", "java/lang/Exception"]).filter goodWord ++ (vx_atS RX4 39 "java/lang/IllegalArgumentException" ["java/lang/RuntimeException", "java/lang/Exception"]).filter goodWord)
def wsL_setting : List Cond := .codeWith yL_setting cL_setting 4 (some .int) [(0, 9, 12, 19)] :: ([.classLink RL 19 "java/lang/IndexOutOfBoundsException", .methodLink RL 21 yX4_setting, .instanceMethod yX4_setting, .selects RX4 yX4_setting yX4_setting, .initialized RX4, .code yX4_setting cX4_setting 2 (some .int), .classLink RX4 56 "java/lang/IndexOutOfBoundsException", .initialized "java/lang/IndexOutOfBoundsException", .fieldLink RX4 14 "PhaseConverter" "plant" "LPhaseConverter$Plant;", .fieldLink RX4 67 "PhaseConverter$Plant" "settings" "[I", .methodLink RX4 52 yX4_isSetting, .static yX4_isSetting, .code yX4_isSetting cX4_isSetting 1 (some .boolean)] ++ wsX40 ++ wsX20 ++ (vx_atS RX4 60 "java/lang/IndexOutOfBoundsException" ["java/lang/RuntimeException", "java/lang/Exception"]).filter goodWord)
def wsL_start_r1 : List Cond := [Cond.classLink RL 28 "java/lang/IllegalStateException", Cond.methodLink RL 24 yX4_start, Cond.instanceMethod yX4_start, Cond.selects RX4 yX4_start yX4_start, Cond.initialized RX4, Cond.code yX4_start cX4_start 1 (some .int), Cond.classLink RX4 75 "java/lang/IllegalStateException", Cond.initialized "java/lang/IllegalStateException", Cond.fieldLink RX4 14 "PhaseConverter" "plant" "LPhaseConverter$Plant;", Cond.fieldLink RX4 83 "PhaseConverter$Plant" "voltage" "I", Cond.methodLink RX4 71 yX2_runs, Cond.instanceMethod yX2_runs, Cond.selects RX2 yX2_runs yX2_runs, Cond.initialized RX2, Cond.code yX2_runs cX2_runs 1 (some .boolean), Cond.fieldLink RX2 46 "PhaseConverter$Plant" "mode" "I", Cond.methodLink RX4 80 yX2_softStart, Cond.instanceMethod yX2_softStart, Cond.selects RX2 yX2_softStart yX2_softStart, Cond.code yX2_softStart cX2_softStart 2 none, Cond.fieldLink RX2 49 "PhaseConverter$Plant" "voltage" "I", Cond.fieldLink RX2 52 "PhaseConverter$Plant" "presentTarget" "I", Cond.fieldLink RX2 55 "PhaseConverter$Plant" "integral" "I", Cond.fieldLink RX2 61 "PhaseConverter$Plant" "addingCount" "I"]
def wsL_start_r2 : List Cond := [Cond.fieldLink RX2 64 "PhaseConverter$Plant" "sheddingCount" "I", Cond.fieldLink RX2 30 "PhaseConverter$Plant" "phaseCount" "I", Cond.fieldLink RX2 34 "PhaseConverter$Plant" "active" "I", Cond.fieldLink RX2 25 "PhaseConverter$Plant" "phases" "[LPhaseConverter$Phase;", Cond.fieldLink RX2 89 "PhaseConverter$Phase" "rest" "I"]
def wsL_start : List Cond := .codeWith yL_start cL_start 3 (some .int) [(0, 8, 11, 28)] :: ((wsL_start_r1 ++ wsL_start_r2) ++ wsX40 ++ wsX20 ++ wsX10 ++ (vx_atS RX4 79 "java/lang/IllegalStateException" ["java/lang/RuntimeException", "java/lang/Exception"]).filter goodWord)
def wsL_run_r1 : List Cond := [Cond.classLink RL 13 "java/lang/IllegalArgumentException", Cond.classLink RL 28 "java/lang/IllegalStateException", Cond.methodLink RL 30 yX4_run, Cond.instanceMethod yX4_run, Cond.selects RX4 yX4_run yX4_run, Cond.initialized RX4, Cond.code yX4_run cX4_run 2 (some .int), Cond.classLink RX4 35 "java/lang/IllegalArgumentException", Cond.initialized "java/lang/IllegalArgumentException", Cond.classLink RX4 75 "java/lang/IllegalStateException", Cond.initialized "java/lang/IllegalStateException", Cond.fieldLink RX4 14 "PhaseConverter" "plant" "LPhaseConverter$Plant;", Cond.fieldLink RX4 83 "PhaseConverter$Plant" "voltage" "I", Cond.methodLink RX4 92 yX4_isRunLength, Cond.static yX4_isRunLength, Cond.code yX4_isRunLength cX4_isRunLength 1 (some .boolean), Cond.methodLink RX4 97 yX4_hasRoomFor, Cond.instanceMethod yX4_hasRoomFor, Cond.selects RX4 yX4_hasRoomFor yX4_hasRoomFor, Cond.code yX4_hasRoomFor cX4_hasRoomFor 2 (some .boolean), Cond.fieldLink RX4 222 "PhaseConverter$Plant" "cycles" "I", Cond.constant RX4 225 (100000), Cond.methodLink RX4 102 yX4_passCycles, Cond.instanceMethod yX4_passCycles]
def wsL_run_r2 : List Cond := [Cond.selects RX4 yX4_passCycles yX4_passCycles, Cond.code yX4_passCycles cX4_passCycles 4 none, Cond.fieldLink RX4 24 "PhaseConverter" "history" "LPhaseConverter$History;", Cond.methodLink RX4 226 yX2_limitEvents, Cond.instanceMethod yX2_limitEvents, Cond.selects RX2 yX2_limitEvents yX2_limitEvents, Cond.initialized RX2, Cond.code yX2_limitEvents cX2_limitEvents 3 (some .int), Cond.fieldLink RX2 30 "PhaseConverter$Plant" "phaseCount" "I", Cond.fieldLink RX2 25 "PhaseConverter$Plant" "phases" "[LPhaseConverter$Phase;", Cond.fieldLink RX2 162 "PhaseConverter$Phase" "limitEvents" "I", Cond.methodLink RX4 176 yX2_passCycle, Cond.instanceMethod yX2_passCycle, Cond.selects RX2 yX2_passCycle yX2_passCycle, Cond.code yX2_passCycle cX2_passCycle 4 none, Cond.fieldLink RX2 18 "PhaseConverter$Plant" "settings" "[I", Cond.fieldLink RX2 49 "PhaseConverter$Plant" "voltage" "I", Cond.fieldLink RX2 73 "PhaseConverter$Plant" "leastVoltage" "I", Cond.methodLink RX2 122 Lib.Math.min.name, Cond.static Lib.Math.min.name, Cond.initialized "java/lang/Math", Cond.code Lib.Math.min.name Lib.Math.min.code 2 (some .int), Cond.fieldLink RX2 76 "PhaseConverter$Plant" "greatestVoltage" "I", Cond.methodLink RX2 128 Lib.Math.max.name]
def wsL_run_r3 : List Cond := [Cond.static Lib.Math.max.name, Cond.code Lib.Math.max.name Lib.Math.max.code 2 (some .int), Cond.fieldLink RX2 70 "PhaseConverter$Plant" "meanCurrent" "I", Cond.fieldLink RX2 67 "PhaseConverter$Plant" "cycles" "I", Cond.methodLink RX2 95 yX2_runs, Cond.instanceMethod yX2_runs, Cond.selects RX2 yX2_runs yX2_runs, Cond.code yX2_runs cX2_runs 1 (some .boolean), Cond.fieldLink RX2 46 "PhaseConverter$Plant" "mode" "I", Cond.methodLink RX2 99 yX2_halt, Cond.instanceMethod yX2_halt, Cond.selects RX2 yX2_halt yX2_halt, Cond.code yX2_halt cX2_halt 3 none, Cond.fieldLink RX2 92 "PhaseConverter$Phase" "onTime" "I", Cond.methodLink RX2 103 yX2_moveTarget, Cond.instanceMethod yX2_moveTarget, Cond.selects RX2 yX2_moveTarget yX2_moveTarget, Cond.code yX2_moveTarget cX2_moveTarget 2 none, Cond.fieldLink RX2 52 "PhaseConverter$Plant" "presentTarget" "I", Cond.methodLink RX2 106 yX2_regulate, Cond.instanceMethod yX2_regulate, Cond.selects RX2 yX2_regulate yX2_regulate, Cond.code yX2_regulate cX2_regulate 5 none, Cond.fieldLink RX2 55 "PhaseConverter$Plant" "integral" "I"]
def wsL_run_r4 : List Cond := [Cond.constant RX2 131 (-100000), Cond.constant RX2 132 (100000), Cond.fieldLink RX2 58 "PhaseConverter$Plant" "duty" "I", Cond.static yX4_clamp, Cond.code yX4_clamp cX4_clamp 3 (some .int), Cond.static yX4_quotient, Cond.code yX4_quotient cX4_quotient 2 (some .int), Cond.methodLink RX2 109 yX2_adaptPhases, Cond.instanceMethod yX2_adaptPhases, Cond.selects RX2 yX2_adaptPhases yX2_adaptPhases, Cond.code yX2_adaptPhases cX2_adaptPhases 3 none, Cond.fieldLink RX2 34 "PhaseConverter$Plant" "active" "I", Cond.fieldLink RX2 61 "PhaseConverter$Plant" "addingCount" "I", Cond.fieldLink RX2 64 "PhaseConverter$Plant" "sheddingCount" "I", Cond.methodLink RX2 140 yX2_changeActive, Cond.instanceMethod yX2_changeActive, Cond.selects RX2 yX2_changeActive yX2_changeActive, Cond.code yX2_changeActive cX2_changeActive 2 none, Cond.fieldLink RX2 82 "PhaseConverter$Plant" "changes" "I", Cond.methodLink RX2 112 yX2_beginPulses, Cond.instanceMethod yX2_beginPulses, Cond.selects RX2 yX2_beginPulses yX2_beginPulses, Cond.code yX2_beginPulses cX2_beginPulses 3 none, Cond.methodLink RX2 143 yX2_beginPulse]
def wsL_run_r5 : List Cond := [Cond.instanceMethod yX2_beginPulse, Cond.selects RX2 yX2_beginPulse yX2_beginPulse, Cond.code yX2_beginPulse cX2_beginPulse 5 none, Cond.fieldLink RX2 149 "PhaseConverter$Phase" "current" "I", Cond.methodLink RX2 146 yX1_skipPulse, Cond.instanceMethod yX1_skipPulse, Cond.selects RX1 yX1_skipPulse yX1_skipPulse, Cond.initialized RX1, Cond.code yX1_skipPulse cX1_skipPulse 1 none, Cond.fieldLink RX1 15 "PhaseConverter$Phase" "onTime" "I", Cond.fieldLink RX1 27 "PhaseConverter$Phase" "skipped" "I", Cond.methodLink RX2 152 yX2_activeCurrents, Cond.instanceMethod yX2_activeCurrents, Cond.selects RX2 yX2_activeCurrents yX2_activeCurrents, Cond.code yX2_activeCurrents cX2_activeCurrents 3 (some .int), Cond.methodLink RX2 155 yX1_beginPulse, Cond.instanceMethod yX1_beginPulse, Cond.selects RX1 yX1_beginPulse yX1_beginPulse, Cond.code yX1_beginPulse cX1_beginPulse 2 none, Cond.fieldLink RX1 18 "PhaseConverter$Phase" "rest" "I", Cond.fieldLink RX1 30 "PhaseConverter$Phase" "pulses" "I", Cond.methodLink RX2 115 yX2_moveCurrents, Cond.instanceMethod yX2_moveCurrents, Cond.selects RX2 yX2_moveCurrents yX2_moveCurrents]
def wsL_run_r6 : List Cond := [Cond.code yX2_moveCurrents cX2_moveCurrents 7 (some .int), Cond.fieldLink RX2 79 "PhaseConverter$Plant" "peakCurrent" "I", Cond.methodLink RX2 157 yX1_passSlot, Cond.instanceMethod yX1_passSlot, Cond.selects RX1 yX1_passSlot yX1_passSlot, Cond.code yX1_passSlot cX1_passSlot 4 none, Cond.fieldLink RX1 9 "PhaseConverter$Phase" "current" "I", Cond.fieldLink RX1 24 "PhaseConverter$Phase" "limitEvents" "I", Cond.fieldLink RX1 21 "PhaseConverter$Phase" "onSlots" "I", Cond.methodLink RX2 119 yX2_moveVoltage, Cond.instanceMethod yX2_moveVoltage, Cond.selects RX2 yX2_moveVoltage yX2_moveVoltage, Cond.code yX2_moveVoltage cX2_moveVoltage 3 none, Cond.constant RX2 161 (40000), Cond.methodLink RX4 229 yX0_keep, Cond.instanceMethod yX0_keep, Cond.selects RX0 yX0_keep yX0_keep, Cond.initialized RX0, Cond.code yX0_keep cX0_keep 4 none, Cond.fieldLink RX0 19 "PhaseConverter$History" "newest" "I", Cond.fieldLink RX0 15 "PhaseConverter$History" "size" "I", Cond.methodLink RX0 22 Lib.Math.min.name, Cond.fieldLink RX0 9 "PhaseConverter$History" "parts" "[I", Cond.fieldLink RX0 28 "PhaseConverter$Plant" "voltage" "I"]
def wsL_run_r7 : List Cond := [Cond.fieldLink RX0 33 "PhaseConverter$Plant" "meanCurrent" "I", Cond.fieldLink RX0 40 "PhaseConverter$Plant" "active" "I", Cond.fieldLink RX0 43 "PhaseConverter$Plant" "mode" "I", Cond.methodLink RX0 36 yX2_ripple, Cond.instanceMethod yX2_ripple, Cond.selects RX2 yX2_ripple yX2_ripple, Cond.code yX2_ripple cX2_ripple 1 (some .int)]
def wsL_run : List Cond := .codeWith yL_run cL_run 4 (some .int) [(0, 9, 12, 13), (0, 9, 15, 28)] :: ((wsL_run_r1 ++ (wsL_run_r2 ++ (wsL_run_r3 ++ (wsL_run_r4 ++ (wsL_run_r5 ++ (wsL_run_r6 ++ wsL_run_r7)))))) ++ wsX40 ++ wsX20 ++ wsX10 ++ wsX00 ++ (vx_atS RX4 39 "java/lang/IllegalArgumentException" ["java/lang/RuntimeException", "java/lang/Exception"]).filter goodWord ++ (vx_atS RX4 79 "java/lang/IllegalStateException" ["java/lang/RuntimeException", "java/lang/Exception"]).filter goodWord)
def wsL_append : List Cond := .codeWith yL_append cL_append 4 (some .int) [(0, 9, 12, 13), (0, 9, 15, 28)] :: ([.classLink RL 13 "java/lang/IllegalArgumentException", .classLink RL 28 "java/lang/IllegalStateException", .methodLink RL 33 yX4_append, .instanceMethod yX4_append, .selects RX4 yX4_append yX4_append, .initialized RX4, .code yX4_append cX4_append 2 (some .int), .classLink RX4 35 "java/lang/IllegalArgumentException", .initialized "java/lang/IllegalArgumentException", .classLink RX4 75 "java/lang/IllegalStateException", .initialized "java/lang/IllegalStateException", .fieldLink RX4 31 "PhaseConverter" "program" "LPhaseConverter$Program;", .fieldLink RX4 112 "PhaseConverter$Program" "length" "I", .methodLink RX4 107 yX3_take, .instanceMethod yX3_take, .selects RX3 yX3_take yX3_take, .initialized RX3, .code yX3_take cX3_take 2 (some .boolean), .fieldLink RX3 15 "PhaseConverter$Program" "length" "I", .fieldLink RX3 9 "PhaseConverter$Program" "codes" "[I"] ++ wsX40 ++ wsX30 ++ (vx_atS RX4 39 "java/lang/IllegalArgumentException" ["java/lang/RuntimeException", "java/lang/Exception"]).filter goodWord ++ (vx_atS RX4 79 "java/lang/IllegalStateException" ["java/lang/RuntimeException", "java/lang/Exception"]).filter goodWord)
def wsL_play_r1 : List Cond := [Cond.classLink RL 13 "java/lang/IllegalArgumentException", Cond.methodLink RL 36 yX4_play, Cond.instanceMethod yX4_play, Cond.selects RX4 yX4_play yX4_play, Cond.initialized RX4, Cond.code yX4_play cX4_play 7 (some .int), Cond.classLink RX4 35 "java/lang/IllegalArgumentException", Cond.initialized "java/lang/IllegalArgumentException", Cond.fieldLink RX4 31 "PhaseConverter" "program" "LPhaseConverter$Program;", Cond.fieldLink RX4 112 "PhaseConverter$Program" "length" "I", Cond.methodLink RX4 119 yX3_isComplete, Cond.instanceMethod yX3_isComplete, Cond.selects RX3 yX3_isComplete yX3_isComplete, Cond.initialized RX3, Cond.code yX3_isComplete cX3_isComplete 3 (some .boolean), Cond.fieldLink RX3 15 "PhaseConverter$Program" "length" "I", Cond.methodLink RX3 19 yX3_codeAt, Cond.instanceMethod yX3_codeAt, Cond.selects RX3 yX3_codeAt yX3_codeAt, Cond.code yX3_codeAt cX3_codeAt 2 (some .int), Cond.fieldLink RX3 9 "PhaseConverter$Program" "codes" "[I", Cond.methodLink RX3 23 yX3_stateAfter, Cond.static yX3_stateAfter, Cond.code yX3_stateAfter cX3_stateAfter 2 (some .int)]
def wsL_play_r2 : List Cond := [Cond.methodLink RX3 27 yX3_stateAfterLetter, Cond.static yX3_stateAfterLetter, Cond.code yX3_stateAfterLetter cX3_stateAfterLetter 1 (some .int), Cond.static yX4_isDigit, Cond.code yX4_isDigit cX4_isDigit 1 (some .boolean), Cond.methodLink RX4 124 yX3_codeAt, Cond.methodLink RX4 128 yX4_isPossible, Cond.instanceMethod yX4_isPossible, Cond.selects RX4 yX4_isPossible yX4_isPossible, Cond.code yX4_isPossible cX4_isPossible 3 (some .boolean), Cond.fieldLink RX4 14 "PhaseConverter" "plant" "LPhaseConverter$Plant;", Cond.methodLink RX4 71 yX2_runs, Cond.instanceMethod yX2_runs, Cond.selects RX2 yX2_runs yX2_runs, Cond.initialized RX2, Cond.code yX2_runs cX2_runs 1 (some .boolean), Cond.fieldLink RX2 46 "PhaseConverter$Plant" "mode" "I", Cond.methodLink RX4 92 yX4_isRunLength, Cond.static yX4_isRunLength, Cond.code yX4_isRunLength cX4_isRunLength 1 (some .boolean), Cond.methodLink RX4 97 yX4_hasRoomFor, Cond.instanceMethod yX4_hasRoomFor, Cond.selects RX4 yX4_hasRoomFor yX4_hasRoomFor, Cond.code yX4_hasRoomFor cX4_hasRoomFor 2 (some .boolean)]
def wsL_play_r3 : List Cond := [Cond.fieldLink RX4 222 "PhaseConverter$Plant" "cycles" "I", Cond.constant RX4 225 (100000), Cond.methodLink RX4 233 yX4_settingOf, Cond.static yX4_settingOf, Cond.code yX4_settingOf cX4_settingOf 1 (some .int), Cond.methodLink RX4 61 yX4_fits, Cond.static yX4_fits, Cond.code yX4_fits cX4_fits 2 (some .boolean), Cond.fieldLink RX4 216 "PhaseConverter" "LEAST" "[I", Cond.fieldLink RX4 219 "PhaseConverter" "GREATEST" "[I", Cond.methodLink RX4 52 yX4_isSetting, Cond.static yX4_isSetting, Cond.code yX4_isSetting cX4_isSetting 1 (some .boolean), Cond.methodLink RX4 131 yX4_carryOut, Cond.instanceMethod yX4_carryOut, Cond.selects RX4 yX4_carryOut yX4_carryOut, Cond.code yX4_carryOut cX4_carryOut 4 none, Cond.fieldLink RX4 67 "PhaseConverter$Plant" "settings" "[I", Cond.methodLink RX4 80 yX2_softStart, Cond.instanceMethod yX2_softStart, Cond.selects RX2 yX2_softStart yX2_softStart, Cond.code yX2_softStart cX2_softStart 2 none, Cond.fieldLink RX2 49 "PhaseConverter$Plant" "voltage" "I", Cond.fieldLink RX2 52 "PhaseConverter$Plant" "presentTarget" "I"]
def wsL_play_r4 : List Cond := [Cond.fieldLink RX2 55 "PhaseConverter$Plant" "integral" "I", Cond.fieldLink RX2 61 "PhaseConverter$Plant" "addingCount" "I", Cond.fieldLink RX2 64 "PhaseConverter$Plant" "sheddingCount" "I", Cond.fieldLink RX2 30 "PhaseConverter$Plant" "phaseCount" "I", Cond.fieldLink RX2 34 "PhaseConverter$Plant" "active" "I", Cond.fieldLink RX2 25 "PhaseConverter$Plant" "phases" "[LPhaseConverter$Phase;", Cond.fieldLink RX2 89 "PhaseConverter$Phase" "rest" "I", Cond.methodLink RX4 89 yX2_halt, Cond.instanceMethod yX2_halt, Cond.selects RX2 yX2_halt yX2_halt, Cond.code yX2_halt cX2_halt 3 none, Cond.fieldLink RX2 92 "PhaseConverter$Phase" "onTime" "I", Cond.methodLink RX4 102 yX4_passCycles, Cond.instanceMethod yX4_passCycles, Cond.selects RX4 yX4_passCycles yX4_passCycles, Cond.code yX4_passCycles cX4_passCycles 4 none, Cond.fieldLink RX4 24 "PhaseConverter" "history" "LPhaseConverter$History;", Cond.methodLink RX4 226 yX2_limitEvents, Cond.instanceMethod yX2_limitEvents, Cond.selects RX2 yX2_limitEvents yX2_limitEvents, Cond.code yX2_limitEvents cX2_limitEvents 3 (some .int), Cond.fieldLink RX2 162 "PhaseConverter$Phase" "limitEvents" "I", Cond.methodLink RX4 176 yX2_passCycle, Cond.instanceMethod yX2_passCycle]
def wsL_play_r5 : List Cond := [Cond.selects RX2 yX2_passCycle yX2_passCycle, Cond.code yX2_passCycle cX2_passCycle 4 none, Cond.fieldLink RX2 18 "PhaseConverter$Plant" "settings" "[I", Cond.fieldLink RX2 73 "PhaseConverter$Plant" "leastVoltage" "I", Cond.methodLink RX2 122 Lib.Math.min.name, Cond.static Lib.Math.min.name, Cond.initialized "java/lang/Math", Cond.code Lib.Math.min.name Lib.Math.min.code 2 (some .int), Cond.fieldLink RX2 76 "PhaseConverter$Plant" "greatestVoltage" "I", Cond.methodLink RX2 128 Lib.Math.max.name, Cond.static Lib.Math.max.name, Cond.code Lib.Math.max.name Lib.Math.max.code 2 (some .int), Cond.fieldLink RX2 70 "PhaseConverter$Plant" "meanCurrent" "I", Cond.fieldLink RX2 67 "PhaseConverter$Plant" "cycles" "I", Cond.methodLink RX2 95 yX2_runs, Cond.methodLink RX2 99 yX2_halt, Cond.methodLink RX2 103 yX2_moveTarget, Cond.instanceMethod yX2_moveTarget, Cond.selects RX2 yX2_moveTarget yX2_moveTarget, Cond.code yX2_moveTarget cX2_moveTarget 2 none, Cond.methodLink RX2 106 yX2_regulate, Cond.instanceMethod yX2_regulate, Cond.selects RX2 yX2_regulate yX2_regulate, Cond.code yX2_regulate cX2_regulate 5 none]
def wsL_play_r6 : List Cond := [Cond.constant RX2 131 (-100000), Cond.constant RX2 132 (100000), Cond.fieldLink RX2 58 "PhaseConverter$Plant" "duty" "I", Cond.static yX4_clamp, Cond.code yX4_clamp cX4_clamp 3 (some .int), Cond.static yX4_quotient, Cond.code yX4_quotient cX4_quotient 2 (some .int), Cond.methodLink RX2 109 yX2_adaptPhases, Cond.instanceMethod yX2_adaptPhases, Cond.selects RX2 yX2_adaptPhases yX2_adaptPhases, Cond.code yX2_adaptPhases cX2_adaptPhases 3 none, Cond.methodLink RX2 140 yX2_changeActive, Cond.instanceMethod yX2_changeActive, Cond.selects RX2 yX2_changeActive yX2_changeActive, Cond.code yX2_changeActive cX2_changeActive 2 none, Cond.fieldLink RX2 82 "PhaseConverter$Plant" "changes" "I", Cond.methodLink RX2 112 yX2_beginPulses, Cond.instanceMethod yX2_beginPulses, Cond.selects RX2 yX2_beginPulses yX2_beginPulses, Cond.code yX2_beginPulses cX2_beginPulses 3 none, Cond.methodLink RX2 143 yX2_beginPulse, Cond.instanceMethod yX2_beginPulse, Cond.selects RX2 yX2_beginPulse yX2_beginPulse, Cond.code yX2_beginPulse cX2_beginPulse 5 none]
def wsL_play_r7 : List Cond := [Cond.fieldLink RX2 149 "PhaseConverter$Phase" "current" "I", Cond.methodLink RX2 146 yX1_skipPulse, Cond.instanceMethod yX1_skipPulse, Cond.selects RX1 yX1_skipPulse yX1_skipPulse, Cond.initialized RX1, Cond.code yX1_skipPulse cX1_skipPulse 1 none, Cond.fieldLink RX1 15 "PhaseConverter$Phase" "onTime" "I", Cond.fieldLink RX1 27 "PhaseConverter$Phase" "skipped" "I", Cond.methodLink RX2 152 yX2_activeCurrents, Cond.instanceMethod yX2_activeCurrents, Cond.selects RX2 yX2_activeCurrents yX2_activeCurrents, Cond.code yX2_activeCurrents cX2_activeCurrents 3 (some .int), Cond.methodLink RX2 155 yX1_beginPulse, Cond.instanceMethod yX1_beginPulse, Cond.selects RX1 yX1_beginPulse yX1_beginPulse, Cond.code yX1_beginPulse cX1_beginPulse 2 none, Cond.fieldLink RX1 18 "PhaseConverter$Phase" "rest" "I", Cond.fieldLink RX1 30 "PhaseConverter$Phase" "pulses" "I", Cond.methodLink RX2 115 yX2_moveCurrents, Cond.instanceMethod yX2_moveCurrents, Cond.selects RX2 yX2_moveCurrents yX2_moveCurrents, Cond.code yX2_moveCurrents cX2_moveCurrents 7 (some .int), Cond.fieldLink RX2 79 "PhaseConverter$Plant" "peakCurrent" "I", Cond.methodLink RX2 157 yX1_passSlot]
def wsL_play_r8 : List Cond := [Cond.instanceMethod yX1_passSlot, Cond.selects RX1 yX1_passSlot yX1_passSlot, Cond.code yX1_passSlot cX1_passSlot 4 none, Cond.fieldLink RX1 9 "PhaseConverter$Phase" "current" "I", Cond.fieldLink RX1 24 "PhaseConverter$Phase" "limitEvents" "I", Cond.fieldLink RX1 21 "PhaseConverter$Phase" "onSlots" "I", Cond.methodLink RX2 119 yX2_moveVoltage, Cond.instanceMethod yX2_moveVoltage, Cond.selects RX2 yX2_moveVoltage yX2_moveVoltage, Cond.code yX2_moveVoltage cX2_moveVoltage 3 none, Cond.constant RX2 161 (40000), Cond.methodLink RX4 229 yX0_keep, Cond.instanceMethod yX0_keep, Cond.selects RX0 yX0_keep yX0_keep, Cond.initialized RX0, Cond.code yX0_keep cX0_keep 4 none, Cond.fieldLink RX0 19 "PhaseConverter$History" "newest" "I", Cond.fieldLink RX0 15 "PhaseConverter$History" "size" "I", Cond.methodLink RX0 22 Lib.Math.min.name, Cond.fieldLink RX0 9 "PhaseConverter$History" "parts" "[I", Cond.fieldLink RX0 28 "PhaseConverter$Plant" "voltage" "I", Cond.fieldLink RX0 33 "PhaseConverter$Plant" "meanCurrent" "I", Cond.fieldLink RX0 40 "PhaseConverter$Plant" "active" "I", Cond.fieldLink RX0 43 "PhaseConverter$Plant" "mode" "I"]
def wsL_play_r9 : List Cond := [Cond.methodLink RX0 36 yX2_ripple, Cond.instanceMethod yX2_ripple, Cond.selects RX2 yX2_ripple yX2_ripple, Cond.code yX2_ripple cX2_ripple 1 (some .int), Cond.methodLink RX4 135 yX4_isDigit]
def wsL_play : List Cond := .codeWith yL_play cL_play 3 (some .int) [(0, 8, 11, 13)] :: ((wsL_play_r1 ++ (wsL_play_r2 ++ (wsL_play_r3 ++ (wsL_play_r4 ++ (wsL_play_r5 ++ (wsL_play_r6 ++ (wsL_play_r7 ++ (wsL_play_r8 ++ wsL_play_r9)))))))) ++ wsX40 ++ wsX30 ++ wsX20 ++ wsX10 ++ wsX00 ++ (vx_atS RX4 39 "java/lang/IllegalArgumentException" ["java/lang/RuntimeException", "java/lang/Exception"]).filter goodWord)
def wsL_count_r1 : List Cond := [Cond.classLink RL 13 "java/lang/IllegalArgumentException", Cond.methodLink RL 39 yX4_count, Cond.instanceMethod yX4_count, Cond.selects RX4 yX4_count yX4_count, Cond.initialized RX4, Cond.code yX4_count cX4_count 2 (some .int), Cond.classLink RX4 35 "java/lang/IllegalArgumentException", Cond.initialized "java/lang/IllegalArgumentException", Cond.methodLink RX4 140 yX4_number, Cond.instanceMethod yX4_number, Cond.selects RX4 yX4_number yX4_number, Cond.code yX4_number cX4_number 2 (some .int), Cond.fieldLink RX4 24 "PhaseConverter" "history" "LPhaseConverter$History;", Cond.fieldLink RX4 156 "PhaseConverter$History" "size" "I", Cond.fieldLink RX4 14 "PhaseConverter" "plant" "LPhaseConverter$Plant;", Cond.methodLink RX4 236 yX2_number, Cond.instanceMethod yX2_number, Cond.selects RX2 yX2_number yX2_number, Cond.initialized RX2, Cond.code yX2_number cX2_number 2 (some .int), Cond.fieldLink RX2 46 "PhaseConverter$Plant" "mode" "I", Cond.fieldLink RX2 49 "PhaseConverter$Plant" "voltage" "I", Cond.fieldLink RX2 52 "PhaseConverter$Plant" "presentTarget" "I", Cond.fieldLink RX2 34 "PhaseConverter$Plant" "active" "I"]
def wsL_count_r2 : List Cond := [Cond.fieldLink RX2 67 "PhaseConverter$Plant" "cycles" "I", Cond.fieldLink RX2 70 "PhaseConverter$Plant" "meanCurrent" "I", Cond.fieldLink RX2 55 "PhaseConverter$Plant" "integral" "I", Cond.fieldLink RX2 58 "PhaseConverter$Plant" "duty" "I", Cond.fieldLink RX2 79 "PhaseConverter$Plant" "peakCurrent" "I", Cond.fieldLink RX2 82 "PhaseConverter$Plant" "changes" "I", Cond.fieldLink RX2 30 "PhaseConverter$Plant" "phaseCount" "I", Cond.methodLink RX2 168 yX2_ripple, Cond.instanceMethod yX2_ripple, Cond.selects RX2 yX2_ripple yX2_ripple, Cond.code yX2_ripple cX2_ripple 1 (some .int), Cond.fieldLink RX2 76 "PhaseConverter$Plant" "greatestVoltage" "I", Cond.fieldLink RX2 73 "PhaseConverter$Plant" "leastVoltage" "I", Cond.methodLink RX2 171 yX2_limitEvents, Cond.instanceMethod yX2_limitEvents, Cond.selects RX2 yX2_limitEvents yX2_limitEvents, Cond.code yX2_limitEvents cX2_limitEvents 3 (some .int), Cond.fieldLink RX2 25 "PhaseConverter$Plant" "phases" "[LPhaseConverter$Phase;", Cond.fieldLink RX2 162 "PhaseConverter$Phase" "limitEvents" "I", Cond.methodLink RX2 173 yX2_skippedPulses, Cond.instanceMethod yX2_skippedPulses, Cond.selects RX2 yX2_skippedPulses yX2_skippedPulses, Cond.code yX2_skippedPulses cX2_skippedPulses 3 (some .int), Cond.fieldLink RX2 165 "PhaseConverter$Phase" "skipped" "I"]
def wsL_count : List Cond := .codeWith yL_count cL_count 4 (some .int) [(0, 9, 12, 13)] :: ((wsL_count_r1 ++ wsL_count_r2) ++ wsX40 ++ wsX00 ++ wsX20 ++ wsX10 ++ (vx_atS RX4 39 "java/lang/IllegalArgumentException" ["java/lang/RuntimeException", "java/lang/Exception"]).filter goodWord)
def wsL_phase_r1 : List Cond := [Cond.classLink RL 19 "java/lang/IndexOutOfBoundsException", Cond.classLink RL 13 "java/lang/IllegalArgumentException", Cond.methodLink RL 42 yX4_phase, Cond.instanceMethod yX4_phase, Cond.selects RX4 yX4_phase yX4_phase, Cond.initialized RX4, Cond.code yX4_phase cX4_phase 3 (some .int), Cond.classLink RX4 56 "java/lang/IndexOutOfBoundsException", Cond.initialized "java/lang/IndexOutOfBoundsException", Cond.classLink RX4 35 "java/lang/IllegalArgumentException", Cond.initialized "java/lang/IllegalArgumentException", Cond.fieldLink RX4 14 "PhaseConverter" "plant" "LPhaseConverter$Plant;", Cond.fieldLink RX4 42 "PhaseConverter$Plant" "phaseCount" "I", Cond.fieldLink RX4 143 "PhaseConverter$Plant" "phases" "[LPhaseConverter$Phase;", Cond.methodLink RX4 151 yX1_property, Cond.instanceMethod yX1_property, Cond.selects RX1 yX1_property yX1_property, Cond.initialized RX1, Cond.code yX1_property cX1_property 2 (some .int), Cond.fieldLink RX1 9 "PhaseConverter$Phase" "current" "I", Cond.fieldLink RX1 15 "PhaseConverter$Phase" "onTime" "I", Cond.fieldLink RX1 18 "PhaseConverter$Phase" "rest" "I", Cond.fieldLink RX1 21 "PhaseConverter$Phase" "onSlots" "I", Cond.fieldLink RX1 24 "PhaseConverter$Phase" "limitEvents" "I"]
def wsL_phase_r2 : List Cond := [Cond.fieldLink RX1 27 "PhaseConverter$Phase" "skipped" "I", Cond.fieldLink RX1 30 "PhaseConverter$Phase" "pulses" "I"]
def wsL_phase : List Cond := .codeWith yL_phase cL_phase 5 (some .int) [(0, 10, 13, 19), (0, 10, 17, 13)] :: ((wsL_phase_r1 ++ wsL_phase_r2) ++ wsX40 ++ wsX20 ++ wsX10 ++ (vx_atS RX4 60 "java/lang/IndexOutOfBoundsException" ["java/lang/RuntimeException", "java/lang/Exception"]).filter goodWord ++ (vx_atS RX4 39 "java/lang/IllegalArgumentException" ["java/lang/RuntimeException", "java/lang/Exception"]).filter goodWord)
def wsL_record : List Cond := .codeWith yL_record cL_record 5 (some .int) [(0, 10, 13, 19), (0, 10, 17, 13)] :: ([.classLink RL 19 "java/lang/IndexOutOfBoundsException", .classLink RL 13 "java/lang/IllegalArgumentException", .methodLink RL 45 yX4_record, .instanceMethod yX4_record, .selects RX4 yX4_record yX4_record, .initialized RX4, .code yX4_record cX4_record 3 (some .int), .classLink RX4 56 "java/lang/IndexOutOfBoundsException", .initialized "java/lang/IndexOutOfBoundsException", .classLink RX4 35 "java/lang/IllegalArgumentException", .initialized "java/lang/IllegalArgumentException", .fieldLink RX4 24 "PhaseConverter" "history" "LPhaseConverter$History;", .fieldLink RX4 156 "PhaseConverter$History" "size" "I", .methodLink RX4 163 yX0_part, .instanceMethod yX0_part, .selects RX0 yX0_part yX0_part, .initialized RX0, .code yX0_part cX0_part 5 (some .int), .fieldLink RX0 19 "PhaseConverter$History" "newest" "I", .fieldLink RX0 9 "PhaseConverter$History" "parts" "[I"] ++ wsX40 ++ wsX00 ++ (vx_atS RX4 60 "java/lang/IndexOutOfBoundsException" ["java/lang/RuntimeException", "java/lang/Exception"]).filter goodWord ++ (vx_atS RX4 39 "java/lang/IllegalArgumentException" ["java/lang/RuntimeException", "java/lang/Exception"]).filter goodWord)
def wsL_ifLoaded_r1 : List Cond := [Cond.classLink RL 13 "java/lang/IllegalArgumentException", Cond.methodLink RL 48 yX4_ifLoaded, Cond.instanceMethod yX4_ifLoaded, Cond.selects RX4 yX4_ifLoaded yX4_ifLoaded, Cond.initialized RX4, Cond.code yX4_ifLoaded cX4_ifLoaded 7 (some .int), Cond.classLink RX4 35 "java/lang/IllegalArgumentException", Cond.initialized "java/lang/IllegalArgumentException", Cond.fieldLink RX4 18 "PhaseConverter" "trial" "LPhaseConverter$Plant;", Cond.fieldLink RX4 67 "PhaseConverter$Plant" "settings" "[I", Cond.fieldLink RX4 172 "PhaseConverter$Plant" "peakCurrent" "I", Cond.constant RX4 175 (40000), Cond.fieldLink RX4 179 "PhaseConverter$Plant" "leastVoltage" "I", Cond.methodLink RX4 182 Lib.Math.min.name, Cond.static Lib.Math.min.name, Cond.initialized "java/lang/Math", Cond.code Lib.Math.min.name Lib.Math.min.code 2 (some .int), Cond.fieldLink RX4 187 "PhaseConverter$Plant" "greatestVoltage" "I", Cond.methodLink RX4 190 Lib.Math.max.name, Cond.static Lib.Math.max.name, Cond.code Lib.Math.max.name Lib.Math.max.code 2 (some .int), Cond.fieldLink RX4 83 "PhaseConverter$Plant" "voltage" "I", Cond.fieldLink RX4 86 "PhaseConverter$Plant" "mode" "I", Cond.fieldLink RX4 193 "PhaseConverter$Plant" "active" "I"]
def wsL_ifLoaded_r2 : List Cond := [Cond.methodLink RX4 61 yX4_fits, Cond.static yX4_fits, Cond.code yX4_fits cX4_fits 2 (some .boolean), Cond.fieldLink RX4 216 "PhaseConverter" "LEAST" "[I", Cond.fieldLink RX4 219 "PhaseConverter" "GREATEST" "[I", Cond.methodLink RX4 52 yX4_isSetting, Cond.static yX4_isSetting, Cond.code yX4_isSetting cX4_isSetting 1 (some .boolean), Cond.methodLink RX4 169 yX4_beginTrial, Cond.instanceMethod yX4_beginTrial, Cond.selects RX4 yX4_beginTrial yX4_beginTrial, Cond.code yX4_beginTrial cX4_beginTrial 1 none, Cond.fieldLink RX4 14 "PhaseConverter" "plant" "LPhaseConverter$Plant;", Cond.methodLink RX4 237 yX2_copyFrom, Cond.instanceMethod yX2_copyFrom, Cond.selects RX2 yX2_copyFrom yX2_copyFrom, Cond.initialized RX2, Cond.code yX2_copyFrom cX2_copyFrom 3 none, Cond.fieldLink RX2 18 "PhaseConverter$Plant" "settings" "[I", Cond.methodLink RX2 37 arraycopyName, Cond.native arraycopyName, Cond.static arraycopyName, Cond.initialized "java/lang/System", Cond.fieldLink RX2 25 "PhaseConverter$Plant" "phases" "[LPhaseConverter$Phase;"]
def wsL_ifLoaded_r3 : List Cond := [Cond.fieldLink RX2 30 "PhaseConverter$Plant" "phaseCount" "I", Cond.fieldLink RX2 34 "PhaseConverter$Plant" "active" "I", Cond.fieldLink RX2 46 "PhaseConverter$Plant" "mode" "I", Cond.fieldLink RX2 49 "PhaseConverter$Plant" "voltage" "I", Cond.fieldLink RX2 52 "PhaseConverter$Plant" "presentTarget" "I", Cond.fieldLink RX2 55 "PhaseConverter$Plant" "integral" "I", Cond.fieldLink RX2 58 "PhaseConverter$Plant" "duty" "I", Cond.fieldLink RX2 61 "PhaseConverter$Plant" "addingCount" "I", Cond.fieldLink RX2 64 "PhaseConverter$Plant" "sheddingCount" "I", Cond.fieldLink RX2 67 "PhaseConverter$Plant" "cycles" "I", Cond.fieldLink RX2 70 "PhaseConverter$Plant" "meanCurrent" "I", Cond.fieldLink RX2 73 "PhaseConverter$Plant" "leastVoltage" "I", Cond.fieldLink RX2 76 "PhaseConverter$Plant" "greatestVoltage" "I", Cond.fieldLink RX2 79 "PhaseConverter$Plant" "peakCurrent" "I", Cond.fieldLink RX2 82 "PhaseConverter$Plant" "changes" "I", Cond.methodLink RX2 85 yX1_copyFrom, Cond.instanceMethod yX1_copyFrom, Cond.selects RX1 yX1_copyFrom yX1_copyFrom, Cond.initialized RX1, Cond.code yX1_copyFrom cX1_copyFrom 2 none, Cond.fieldLink RX1 9 "PhaseConverter$Phase" "current" "I", Cond.fieldLink RX1 15 "PhaseConverter$Phase" "onTime" "I", Cond.fieldLink RX1 18 "PhaseConverter$Phase" "rest" "I", Cond.fieldLink RX1 21 "PhaseConverter$Phase" "onSlots" "I"]
def wsL_ifLoaded_r4 : List Cond := [Cond.fieldLink RX1 24 "PhaseConverter$Phase" "limitEvents" "I", Cond.fieldLink RX1 27 "PhaseConverter$Phase" "skipped" "I", Cond.fieldLink RX1 30 "PhaseConverter$Phase" "pulses" "I", Cond.methodLink RX4 176 yX2_passCycle, Cond.instanceMethod yX2_passCycle, Cond.selects RX2 yX2_passCycle yX2_passCycle, Cond.code yX2_passCycle cX2_passCycle 4 none, Cond.methodLink RX2 122 Lib.Math.min.name, Cond.methodLink RX2 128 Lib.Math.max.name, Cond.methodLink RX2 95 yX2_runs, Cond.instanceMethod yX2_runs, Cond.selects RX2 yX2_runs yX2_runs, Cond.code yX2_runs cX2_runs 1 (some .boolean), Cond.methodLink RX2 99 yX2_halt, Cond.instanceMethod yX2_halt, Cond.selects RX2 yX2_halt yX2_halt, Cond.code yX2_halt cX2_halt 3 none, Cond.fieldLink RX2 92 "PhaseConverter$Phase" "onTime" "I", Cond.methodLink RX2 103 yX2_moveTarget, Cond.instanceMethod yX2_moveTarget, Cond.selects RX2 yX2_moveTarget yX2_moveTarget, Cond.code yX2_moveTarget cX2_moveTarget 2 none, Cond.methodLink RX2 106 yX2_regulate, Cond.instanceMethod yX2_regulate]
def wsL_ifLoaded_r5 : List Cond := [Cond.selects RX2 yX2_regulate yX2_regulate, Cond.code yX2_regulate cX2_regulate 5 none, Cond.constant RX2 131 (-100000), Cond.constant RX2 132 (100000), Cond.static yX4_clamp, Cond.code yX4_clamp cX4_clamp 3 (some .int), Cond.static yX4_quotient, Cond.code yX4_quotient cX4_quotient 2 (some .int), Cond.methodLink RX2 109 yX2_adaptPhases, Cond.instanceMethod yX2_adaptPhases, Cond.selects RX2 yX2_adaptPhases yX2_adaptPhases, Cond.code yX2_adaptPhases cX2_adaptPhases 3 none, Cond.methodLink RX2 140 yX2_changeActive, Cond.instanceMethod yX2_changeActive, Cond.selects RX2 yX2_changeActive yX2_changeActive, Cond.code yX2_changeActive cX2_changeActive 2 none, Cond.methodLink RX2 112 yX2_beginPulses, Cond.instanceMethod yX2_beginPulses, Cond.selects RX2 yX2_beginPulses yX2_beginPulses, Cond.code yX2_beginPulses cX2_beginPulses 3 none, Cond.methodLink RX2 143 yX2_beginPulse, Cond.instanceMethod yX2_beginPulse, Cond.selects RX2 yX2_beginPulse yX2_beginPulse, Cond.code yX2_beginPulse cX2_beginPulse 5 none]
def wsL_ifLoaded_r6 : List Cond := [Cond.fieldLink RX2 149 "PhaseConverter$Phase" "current" "I", Cond.methodLink RX2 146 yX1_skipPulse, Cond.instanceMethod yX1_skipPulse, Cond.selects RX1 yX1_skipPulse yX1_skipPulse, Cond.code yX1_skipPulse cX1_skipPulse 1 none, Cond.methodLink RX2 152 yX2_activeCurrents, Cond.instanceMethod yX2_activeCurrents, Cond.selects RX2 yX2_activeCurrents yX2_activeCurrents, Cond.code yX2_activeCurrents cX2_activeCurrents 3 (some .int), Cond.methodLink RX2 155 yX1_beginPulse, Cond.instanceMethod yX1_beginPulse, Cond.selects RX1 yX1_beginPulse yX1_beginPulse, Cond.code yX1_beginPulse cX1_beginPulse 2 none, Cond.methodLink RX2 115 yX2_moveCurrents, Cond.instanceMethod yX2_moveCurrents, Cond.selects RX2 yX2_moveCurrents yX2_moveCurrents, Cond.code yX2_moveCurrents cX2_moveCurrents 7 (some .int), Cond.methodLink RX2 157 yX1_passSlot, Cond.instanceMethod yX1_passSlot, Cond.selects RX1 yX1_passSlot yX1_passSlot, Cond.code yX1_passSlot cX1_passSlot 4 none, Cond.methodLink RX2 119 yX2_moveVoltage, Cond.instanceMethod yX2_moveVoltage, Cond.selects RX2 yX2_moveVoltage yX2_moveVoltage]
def wsL_ifLoaded_r7 : List Cond := [Cond.code yX2_moveVoltage cX2_moveVoltage 3 none, Cond.constant RX2 161 (40000)]
def wsL_ifLoaded : List Cond := .codeWith yL_ifLoaded cL_ifLoaded 6 (some .int) [(0, 12, 15, 13)] :: ((wsL_ifLoaded_r1 ++ (wsL_ifLoaded_r2 ++ (wsL_ifLoaded_r3 ++ (wsL_ifLoaded_r4 ++ (wsL_ifLoaded_r5 ++ (wsL_ifLoaded_r6 ++ wsL_ifLoaded_r7)))))) ++ wsX40 ++ wsX20 ++ wsX10 ++ (vx_atS RX4 39 "java/lang/IllegalArgumentException" ["java/lang/RuntimeException", "java/lang/Exception"]).filter goodWord)
def wsL_settles_r1 : List Cond := [Cond.classLink RL 13 "java/lang/IllegalArgumentException", Cond.methodLink RL 52 yX4_settles, Cond.instanceMethod yX4_settles, Cond.selects RX4 yX4_settles yX4_settles, Cond.initialized RX4, Cond.code yX4_settles cX4_settles 5 (some .int), Cond.classLink RX4 35 "java/lang/IllegalArgumentException", Cond.initialized "java/lang/IllegalArgumentException", Cond.fieldLink RX4 18 "PhaseConverter" "trial" "LPhaseConverter$Plant;", Cond.fieldLink RX4 67 "PhaseConverter$Plant" "settings" "[I", Cond.fieldLink RX4 83 "PhaseConverter$Plant" "voltage" "I", Cond.methodLink RX4 198 Lib.Math.abs.name, Cond.static Lib.Math.abs.name, Cond.initialized "java/lang/Math", Cond.code Lib.Math.abs.name Lib.Math.abs.code 1 (some .int), Cond.methodLink RX4 169 yX4_beginTrial, Cond.instanceMethod yX4_beginTrial, Cond.selects RX4 yX4_beginTrial yX4_beginTrial, Cond.code yX4_beginTrial cX4_beginTrial 1 none, Cond.fieldLink RX4 14 "PhaseConverter" "plant" "LPhaseConverter$Plant;", Cond.methodLink RX4 237 yX2_copyFrom, Cond.instanceMethod yX2_copyFrom, Cond.selects RX2 yX2_copyFrom yX2_copyFrom, Cond.initialized RX2]
def wsL_settles_r2 : List Cond := [Cond.code yX2_copyFrom cX2_copyFrom 3 none, Cond.fieldLink RX2 18 "PhaseConverter$Plant" "settings" "[I", Cond.methodLink RX2 37 arraycopyName, Cond.native arraycopyName, Cond.static arraycopyName, Cond.initialized "java/lang/System", Cond.fieldLink RX2 25 "PhaseConverter$Plant" "phases" "[LPhaseConverter$Phase;", Cond.fieldLink RX2 30 "PhaseConverter$Plant" "phaseCount" "I", Cond.fieldLink RX2 34 "PhaseConverter$Plant" "active" "I", Cond.fieldLink RX2 46 "PhaseConverter$Plant" "mode" "I", Cond.fieldLink RX2 49 "PhaseConverter$Plant" "voltage" "I", Cond.fieldLink RX2 52 "PhaseConverter$Plant" "presentTarget" "I", Cond.fieldLink RX2 55 "PhaseConverter$Plant" "integral" "I", Cond.fieldLink RX2 58 "PhaseConverter$Plant" "duty" "I", Cond.fieldLink RX2 61 "PhaseConverter$Plant" "addingCount" "I", Cond.fieldLink RX2 64 "PhaseConverter$Plant" "sheddingCount" "I", Cond.fieldLink RX2 67 "PhaseConverter$Plant" "cycles" "I", Cond.fieldLink RX2 70 "PhaseConverter$Plant" "meanCurrent" "I", Cond.fieldLink RX2 73 "PhaseConverter$Plant" "leastVoltage" "I", Cond.fieldLink RX2 76 "PhaseConverter$Plant" "greatestVoltage" "I", Cond.fieldLink RX2 79 "PhaseConverter$Plant" "peakCurrent" "I", Cond.fieldLink RX2 82 "PhaseConverter$Plant" "changes" "I", Cond.methodLink RX2 85 yX1_copyFrom, Cond.instanceMethod yX1_copyFrom]
def wsL_settles_r3 : List Cond := [Cond.selects RX1 yX1_copyFrom yX1_copyFrom, Cond.initialized RX1, Cond.code yX1_copyFrom cX1_copyFrom 2 none, Cond.fieldLink RX1 9 "PhaseConverter$Phase" "current" "I", Cond.fieldLink RX1 15 "PhaseConverter$Phase" "onTime" "I", Cond.fieldLink RX1 18 "PhaseConverter$Phase" "rest" "I", Cond.fieldLink RX1 21 "PhaseConverter$Phase" "onSlots" "I", Cond.fieldLink RX1 24 "PhaseConverter$Phase" "limitEvents" "I", Cond.fieldLink RX1 27 "PhaseConverter$Phase" "skipped" "I", Cond.fieldLink RX1 30 "PhaseConverter$Phase" "pulses" "I", Cond.methodLink RX4 176 yX2_passCycle, Cond.instanceMethod yX2_passCycle, Cond.selects RX2 yX2_passCycle yX2_passCycle, Cond.code yX2_passCycle cX2_passCycle 4 none, Cond.methodLink RX2 122 Lib.Math.min.name, Cond.static Lib.Math.min.name, Cond.code Lib.Math.min.name Lib.Math.min.code 2 (some .int), Cond.methodLink RX2 128 Lib.Math.max.name, Cond.static Lib.Math.max.name, Cond.code Lib.Math.max.name Lib.Math.max.code 2 (some .int), Cond.methodLink RX2 95 yX2_runs, Cond.instanceMethod yX2_runs, Cond.selects RX2 yX2_runs yX2_runs, Cond.code yX2_runs cX2_runs 1 (some .boolean)]
def wsL_settles_r4 : List Cond := [Cond.methodLink RX2 99 yX2_halt, Cond.instanceMethod yX2_halt, Cond.selects RX2 yX2_halt yX2_halt, Cond.code yX2_halt cX2_halt 3 none, Cond.fieldLink RX2 92 "PhaseConverter$Phase" "onTime" "I", Cond.methodLink RX2 103 yX2_moveTarget, Cond.instanceMethod yX2_moveTarget, Cond.selects RX2 yX2_moveTarget yX2_moveTarget, Cond.code yX2_moveTarget cX2_moveTarget 2 none, Cond.methodLink RX2 106 yX2_regulate, Cond.instanceMethod yX2_regulate, Cond.selects RX2 yX2_regulate yX2_regulate, Cond.code yX2_regulate cX2_regulate 5 none, Cond.constant RX2 131 (-100000), Cond.constant RX2 132 (100000), Cond.static yX4_clamp, Cond.code yX4_clamp cX4_clamp 3 (some .int), Cond.static yX4_quotient, Cond.code yX4_quotient cX4_quotient 2 (some .int), Cond.methodLink RX2 109 yX2_adaptPhases, Cond.instanceMethod yX2_adaptPhases, Cond.selects RX2 yX2_adaptPhases yX2_adaptPhases, Cond.code yX2_adaptPhases cX2_adaptPhases 3 none, Cond.methodLink RX2 140 yX2_changeActive]
def wsL_settles_r5 : List Cond := [Cond.instanceMethod yX2_changeActive, Cond.selects RX2 yX2_changeActive yX2_changeActive, Cond.code yX2_changeActive cX2_changeActive 2 none, Cond.methodLink RX2 112 yX2_beginPulses, Cond.instanceMethod yX2_beginPulses, Cond.selects RX2 yX2_beginPulses yX2_beginPulses, Cond.code yX2_beginPulses cX2_beginPulses 3 none, Cond.methodLink RX2 143 yX2_beginPulse, Cond.instanceMethod yX2_beginPulse, Cond.selects RX2 yX2_beginPulse yX2_beginPulse, Cond.code yX2_beginPulse cX2_beginPulse 5 none, Cond.fieldLink RX2 149 "PhaseConverter$Phase" "current" "I", Cond.methodLink RX2 146 yX1_skipPulse, Cond.instanceMethod yX1_skipPulse, Cond.selects RX1 yX1_skipPulse yX1_skipPulse, Cond.code yX1_skipPulse cX1_skipPulse 1 none, Cond.methodLink RX2 152 yX2_activeCurrents, Cond.instanceMethod yX2_activeCurrents, Cond.selects RX2 yX2_activeCurrents yX2_activeCurrents, Cond.code yX2_activeCurrents cX2_activeCurrents 3 (some .int), Cond.methodLink RX2 155 yX1_beginPulse, Cond.instanceMethod yX1_beginPulse, Cond.selects RX1 yX1_beginPulse yX1_beginPulse, Cond.code yX1_beginPulse cX1_beginPulse 2 none]
def wsL_settles_r6 : List Cond := [Cond.methodLink RX2 115 yX2_moveCurrents, Cond.instanceMethod yX2_moveCurrents, Cond.selects RX2 yX2_moveCurrents yX2_moveCurrents, Cond.code yX2_moveCurrents cX2_moveCurrents 7 (some .int), Cond.methodLink RX2 157 yX1_passSlot, Cond.instanceMethod yX1_passSlot, Cond.selects RX1 yX1_passSlot yX1_passSlot, Cond.code yX1_passSlot cX1_passSlot 4 none, Cond.methodLink RX2 119 yX2_moveVoltage, Cond.instanceMethod yX2_moveVoltage, Cond.selects RX2 yX2_moveVoltage yX2_moveVoltage, Cond.code yX2_moveVoltage cX2_moveVoltage 3 none, Cond.constant RX2 161 (40000)]
def wsL_settles : List Cond := .codeWith yL_settles cL_settles 4 (some .int) [(0, 9, 12, 13)] :: ((wsL_settles_r1 ++ (wsL_settles_r2 ++ (wsL_settles_r3 ++ (wsL_settles_r4 ++ (wsL_settles_r5 ++ wsL_settles_r6))))) ++ wsX40 ++ wsX20 ++ wsX10 ++ (vx_atS RX4 39 "java/lang/IllegalArgumentException" ["java/lang/RuntimeException", "java/lang/Exception"]).filter goodWord)
def wsL_greatestLoad_r1 : List Cond := [Cond.classLink RL 13 "java/lang/IllegalArgumentException", Cond.methodLink RL 55 yX4_greatestLoad, Cond.instanceMethod yX4_greatestLoad, Cond.selects RX4 yX4_greatestLoad yX4_greatestLoad, Cond.initialized RX4, Cond.code yX4_greatestLoad cX4_greatestLoad 3 (some .int), Cond.classLink RX4 35 "java/lang/IllegalArgumentException", Cond.initialized "java/lang/IllegalArgumentException", Cond.constant RX4 175 (40000), Cond.methodLink RX4 203 yX4_holdsLevel, Cond.instanceMethod yX4_holdsLevel, Cond.selects RX4 yX4_holdsLevel yX4_holdsLevel, Cond.code yX4_holdsLevel cX4_holdsLevel 4 (some .boolean), Cond.fieldLink RX4 18 "PhaseConverter" "trial" "LPhaseConverter$Plant;", Cond.fieldLink RX4 67 "PhaseConverter$Plant" "settings" "[I", Cond.fieldLink RX4 179 "PhaseConverter$Plant" "leastVoltage" "I", Cond.methodLink RX4 169 yX4_beginTrial, Cond.instanceMethod yX4_beginTrial, Cond.selects RX4 yX4_beginTrial yX4_beginTrial, Cond.code yX4_beginTrial cX4_beginTrial 1 none, Cond.fieldLink RX4 14 "PhaseConverter" "plant" "LPhaseConverter$Plant;", Cond.methodLink RX4 237 yX2_copyFrom, Cond.instanceMethod yX2_copyFrom, Cond.selects RX2 yX2_copyFrom yX2_copyFrom]
def wsL_greatestLoad_r2 : List Cond := [Cond.initialized RX2, Cond.code yX2_copyFrom cX2_copyFrom 3 none, Cond.fieldLink RX2 18 "PhaseConverter$Plant" "settings" "[I", Cond.methodLink RX2 37 arraycopyName, Cond.native arraycopyName, Cond.static arraycopyName, Cond.initialized "java/lang/System", Cond.fieldLink RX2 25 "PhaseConverter$Plant" "phases" "[LPhaseConverter$Phase;", Cond.fieldLink RX2 30 "PhaseConverter$Plant" "phaseCount" "I", Cond.fieldLink RX2 34 "PhaseConverter$Plant" "active" "I", Cond.fieldLink RX2 46 "PhaseConverter$Plant" "mode" "I", Cond.fieldLink RX2 49 "PhaseConverter$Plant" "voltage" "I", Cond.fieldLink RX2 52 "PhaseConverter$Plant" "presentTarget" "I", Cond.fieldLink RX2 55 "PhaseConverter$Plant" "integral" "I", Cond.fieldLink RX2 58 "PhaseConverter$Plant" "duty" "I", Cond.fieldLink RX2 61 "PhaseConverter$Plant" "addingCount" "I", Cond.fieldLink RX2 64 "PhaseConverter$Plant" "sheddingCount" "I", Cond.fieldLink RX2 67 "PhaseConverter$Plant" "cycles" "I", Cond.fieldLink RX2 70 "PhaseConverter$Plant" "meanCurrent" "I", Cond.fieldLink RX2 73 "PhaseConverter$Plant" "leastVoltage" "I", Cond.fieldLink RX2 76 "PhaseConverter$Plant" "greatestVoltage" "I", Cond.fieldLink RX2 79 "PhaseConverter$Plant" "peakCurrent" "I", Cond.fieldLink RX2 82 "PhaseConverter$Plant" "changes" "I", Cond.methodLink RX2 85 yX1_copyFrom]
def wsL_greatestLoad_r3 : List Cond := [Cond.instanceMethod yX1_copyFrom, Cond.selects RX1 yX1_copyFrom yX1_copyFrom, Cond.initialized RX1, Cond.code yX1_copyFrom cX1_copyFrom 2 none, Cond.fieldLink RX1 9 "PhaseConverter$Phase" "current" "I", Cond.fieldLink RX1 15 "PhaseConverter$Phase" "onTime" "I", Cond.fieldLink RX1 18 "PhaseConverter$Phase" "rest" "I", Cond.fieldLink RX1 21 "PhaseConverter$Phase" "onSlots" "I", Cond.fieldLink RX1 24 "PhaseConverter$Phase" "limitEvents" "I", Cond.fieldLink RX1 27 "PhaseConverter$Phase" "skipped" "I", Cond.fieldLink RX1 30 "PhaseConverter$Phase" "pulses" "I", Cond.methodLink RX4 176 yX2_passCycle, Cond.instanceMethod yX2_passCycle, Cond.selects RX2 yX2_passCycle yX2_passCycle, Cond.code yX2_passCycle cX2_passCycle 4 none, Cond.methodLink RX2 122 Lib.Math.min.name, Cond.static Lib.Math.min.name, Cond.initialized "java/lang/Math", Cond.code Lib.Math.min.name Lib.Math.min.code 2 (some .int), Cond.methodLink RX2 128 Lib.Math.max.name, Cond.static Lib.Math.max.name, Cond.code Lib.Math.max.name Lib.Math.max.code 2 (some .int), Cond.methodLink RX2 95 yX2_runs, Cond.instanceMethod yX2_runs]
def wsL_greatestLoad_r4 : List Cond := [Cond.selects RX2 yX2_runs yX2_runs, Cond.code yX2_runs cX2_runs 1 (some .boolean), Cond.methodLink RX2 99 yX2_halt, Cond.instanceMethod yX2_halt, Cond.selects RX2 yX2_halt yX2_halt, Cond.code yX2_halt cX2_halt 3 none, Cond.fieldLink RX2 92 "PhaseConverter$Phase" "onTime" "I", Cond.methodLink RX2 103 yX2_moveTarget, Cond.instanceMethod yX2_moveTarget, Cond.selects RX2 yX2_moveTarget yX2_moveTarget, Cond.code yX2_moveTarget cX2_moveTarget 2 none, Cond.methodLink RX2 106 yX2_regulate, Cond.instanceMethod yX2_regulate, Cond.selects RX2 yX2_regulate yX2_regulate, Cond.code yX2_regulate cX2_regulate 5 none, Cond.constant RX2 131 (-100000), Cond.constant RX2 132 (100000), Cond.static yX4_clamp, Cond.code yX4_clamp cX4_clamp 3 (some .int), Cond.static yX4_quotient, Cond.code yX4_quotient cX4_quotient 2 (some .int), Cond.methodLink RX2 109 yX2_adaptPhases, Cond.instanceMethod yX2_adaptPhases, Cond.selects RX2 yX2_adaptPhases yX2_adaptPhases]
def wsL_greatestLoad_r5 : List Cond := [Cond.code yX2_adaptPhases cX2_adaptPhases 3 none, Cond.methodLink RX2 140 yX2_changeActive, Cond.instanceMethod yX2_changeActive, Cond.selects RX2 yX2_changeActive yX2_changeActive, Cond.code yX2_changeActive cX2_changeActive 2 none, Cond.methodLink RX2 112 yX2_beginPulses, Cond.instanceMethod yX2_beginPulses, Cond.selects RX2 yX2_beginPulses yX2_beginPulses, Cond.code yX2_beginPulses cX2_beginPulses 3 none, Cond.methodLink RX2 143 yX2_beginPulse, Cond.instanceMethod yX2_beginPulse, Cond.selects RX2 yX2_beginPulse yX2_beginPulse, Cond.code yX2_beginPulse cX2_beginPulse 5 none, Cond.fieldLink RX2 149 "PhaseConverter$Phase" "current" "I", Cond.methodLink RX2 146 yX1_skipPulse, Cond.instanceMethod yX1_skipPulse, Cond.selects RX1 yX1_skipPulse yX1_skipPulse, Cond.code yX1_skipPulse cX1_skipPulse 1 none, Cond.methodLink RX2 152 yX2_activeCurrents, Cond.instanceMethod yX2_activeCurrents, Cond.selects RX2 yX2_activeCurrents yX2_activeCurrents, Cond.code yX2_activeCurrents cX2_activeCurrents 3 (some .int), Cond.methodLink RX2 155 yX1_beginPulse, Cond.instanceMethod yX1_beginPulse]
def wsL_greatestLoad_r6 : List Cond := [Cond.selects RX1 yX1_beginPulse yX1_beginPulse, Cond.code yX1_beginPulse cX1_beginPulse 2 none, Cond.methodLink RX2 115 yX2_moveCurrents, Cond.instanceMethod yX2_moveCurrents, Cond.selects RX2 yX2_moveCurrents yX2_moveCurrents, Cond.code yX2_moveCurrents cX2_moveCurrents 7 (some .int), Cond.methodLink RX2 157 yX1_passSlot, Cond.instanceMethod yX1_passSlot, Cond.selects RX1 yX1_passSlot yX1_passSlot, Cond.code yX1_passSlot cX1_passSlot 4 none, Cond.methodLink RX2 119 yX2_moveVoltage, Cond.instanceMethod yX2_moveVoltage, Cond.selects RX2 yX2_moveVoltage yX2_moveVoltage, Cond.code yX2_moveVoltage cX2_moveVoltage 3 none, Cond.constant RX2 161 (40000)]
def wsL_greatestLoad : List Cond := .codeWith yL_greatestLoad cL_greatestLoad 4 (some .int) [(0, 9, 12, 13)] :: ((wsL_greatestLoad_r1 ++ (wsL_greatestLoad_r2 ++ (wsL_greatestLoad_r3 ++ (wsL_greatestLoad_r4 ++ (wsL_greatestLoad_r5 ++ wsL_greatestLoad_r6))))) ++ wsX40 ++ wsX20 ++ wsX10 ++ (vx_atS RX4 39 "java/lang/IllegalArgumentException" ["java/lang/RuntimeException", "java/lang/Exception"]).filter goodWord)
def wsL_law0_r1 : List Cond := [Cond.classLink RL 8 RX4, Cond.instantiable RX4 4, Cond.initialized RX4, Cond.classLink RL 59 RX5, Cond.instantiable RX5 15, Cond.initialized RX5, Cond.arrayClass .long, Cond.methodLink RL 58 yX4_init, Cond.instanceMethod yX4_init, Cond.code yX4_init cX4_init 1 none, Cond.methodLink RX4 1 objectInit, Cond.instanceMethod objectInit, Cond.code objectInit ⟨#[0xb1]⟩ 1 none, Cond.classLink RX4 7 RX2, Cond.instantiable RX2 17, Cond.initialized RX2, Cond.fieldLink RX4 14 "PhaseConverter" "plant" "LPhaseConverter$Plant;", Cond.fieldLink RX4 18 "PhaseConverter" "trial" "LPhaseConverter$Plant;", Cond.classLink RX4 21 RX0, Cond.instantiable RX0 3, Cond.initialized RX0, Cond.fieldLink RX4 24 "PhaseConverter" "history" "LPhaseConverter$History;", Cond.classLink RX4 28 RX3, Cond.instantiable RX3 2]
def wsL_law0_r2 : List Cond := [Cond.initialized RX3, Cond.fieldLink RX4 31 "PhaseConverter" "program" "LPhaseConverter$Program;", Cond.methodLink RX4 11 yX2_init, Cond.instanceMethod yX2_init, Cond.code yX2_init cX2_init 3 none, Cond.methodLink RX2 3 objectInit, Cond.methodLink RX2 13 ⟨"[I", "clone", "()Ljava/lang/Object;"⟩, Cond.sameMethod "[I" "java/lang/Object" "clone" "()Ljava/lang/Object;", Cond.native ⟨"java/lang/Object", "clone", "()Ljava/lang/Object;"⟩, Cond.instanceMethod ⟨"java/lang/Object", "clone", "()Ljava/lang/Object;"⟩, Cond.selects "[I" ⟨"[I", "clone", "()Ljava/lang/Object;"⟩ ⟨"java/lang/Object", "clone", "()Ljava/lang/Object;"⟩, Cond.classLink RX2 14 "[I", Cond.fieldLink RX2 18 "PhaseConverter$Plant" "settings" "[I", Cond.classLink RX2 23 RX1, Cond.fieldLink RX2 25 "PhaseConverter$Plant" "phases" "[LPhaseConverter$Phase;", Cond.instantiable RX1 7, Cond.initialized RX1, Cond.fieldLink RX2 30 "PhaseConverter$Plant" "phaseCount" "I", Cond.fieldLink RX2 34 "PhaseConverter$Plant" "active" "I", Cond.instanceMethod yX1_init, Cond.code yX1_init cX1_init 1 none, Cond.methodLink RX1 3 objectInit, Cond.instanceMethod yX0_init, Cond.code yX0_init cX0_init 1 none]
def wsL_law0_r3 : List Cond := [Cond.methodLink RX0 3 objectInit, Cond.arrayClass .int, Cond.fieldLink RX0 9 "PhaseConverter$History" "parts" "[I", Cond.instanceMethod yX3_init, Cond.code yX3_init cX3_init 1 none, Cond.methodLink RX3 3 objectInit, Cond.fieldLink RX3 9 "PhaseConverter$Program" "codes" "[I", Cond.methodLink RL 61 yX5_init, Cond.instanceMethod yX5_init, Cond.code yX5_init cX5_init 1 none, Cond.methodLink RX5 1 objectInit, Cond.fieldLink RX5 7 "PhaseConverterModel" "z" "[I", Cond.fieldLink RX5 13 "PhaseConverterModel" "aside" "[I", Cond.fieldLink RX5 16 "PhaseConverterModel" "text" "[I", Cond.fieldLink RX5 19 "PhaseConverterModel" "read" "[I", Cond.methodLink RX5 22 yX5_fresh, Cond.instanceMethod yX5_fresh, Cond.selects RX5 yX5_fresh yX5_fresh, Cond.code yX5_fresh cX5_fresh 3 none, Cond.methodLink RX5 31 yX5_first, Cond.static yX5_first, Cond.code yX5_first cX5_first 1 (some .int), Cond.methodLink RL 62 yL_begin, Cond.static yL_begin]
def wsL_law0_r4 : List Cond := [Cond.initialized RL, Cond.codeWith yL_begin cL_begin 4 (some .int) [(0, 9, 12, 13)], Cond.classLink RL 13 "java/lang/IllegalArgumentException", Cond.methodLink RL 7 yX4_begin, Cond.instanceMethod yX4_begin, Cond.selects RX4 yX4_begin yX4_begin, Cond.code yX4_begin cX4_begin 3 (some .int), Cond.classLink RX4 35 "java/lang/IllegalArgumentException", Cond.initialized "java/lang/IllegalArgumentException", Cond.fieldLink RX4 42 "PhaseConverter$Plant" "phaseCount" "I", Cond.methodLink RX4 46 yX2_reset, Cond.instanceMethod yX2_reset, Cond.selects RX2 yX2_reset yX2_reset, Cond.code yX2_reset cX2_reset 3 none, Cond.methodLink RX2 37 arraycopyName, Cond.native arraycopyName, Cond.static arraycopyName, Cond.initialized "java/lang/System", Cond.fieldLink RX2 46 "PhaseConverter$Plant" "mode" "I", Cond.fieldLink RX2 49 "PhaseConverter$Plant" "voltage" "I", Cond.fieldLink RX2 52 "PhaseConverter$Plant" "presentTarget" "I", Cond.fieldLink RX2 55 "PhaseConverter$Plant" "integral" "I", Cond.fieldLink RX2 58 "PhaseConverter$Plant" "duty" "I", Cond.fieldLink RX2 61 "PhaseConverter$Plant" "addingCount" "I"]
def wsL_law0_r5 : List Cond := [Cond.fieldLink RX2 64 "PhaseConverter$Plant" "sheddingCount" "I", Cond.fieldLink RX2 67 "PhaseConverter$Plant" "cycles" "I", Cond.fieldLink RX2 70 "PhaseConverter$Plant" "meanCurrent" "I", Cond.fieldLink RX2 73 "PhaseConverter$Plant" "leastVoltage" "I", Cond.fieldLink RX2 76 "PhaseConverter$Plant" "greatestVoltage" "I", Cond.fieldLink RX2 79 "PhaseConverter$Plant" "peakCurrent" "I", Cond.fieldLink RX2 82 "PhaseConverter$Plant" "changes" "I", Cond.methodLink RX2 43 yX1_reset, Cond.instanceMethod yX1_reset, Cond.selects RX1 yX1_reset yX1_reset, Cond.code yX1_reset cX1_reset 1 none, Cond.fieldLink RX1 9 "PhaseConverter$Phase" "current" "I", Cond.fieldLink RX1 15 "PhaseConverter$Phase" "onTime" "I", Cond.fieldLink RX1 18 "PhaseConverter$Phase" "rest" "I", Cond.fieldLink RX1 21 "PhaseConverter$Phase" "onSlots" "I", Cond.fieldLink RX1 24 "PhaseConverter$Phase" "limitEvents" "I", Cond.fieldLink RX1 27 "PhaseConverter$Phase" "skipped" "I", Cond.fieldLink RX1 30 "PhaseConverter$Phase" "pulses" "I", Cond.methodLink RX4 49 yX0_forget, Cond.instanceMethod yX0_forget, Cond.selects RX0 yX0_forget yX0_forget, Cond.code yX0_forget cX0_forget 1 none, Cond.fieldLink RX0 15 "PhaseConverter$History" "size" "I", Cond.fieldLink RX0 19 "PhaseConverter$History" "newest" "I"]
def wsL_law0_r6 : List Cond := [Cond.methodLink RL 67 yX5_begin, Cond.instanceMethod yX5_begin, Cond.selects RX5 yX5_begin yX5_begin, Cond.code yX5_begin cX5_begin 3 (some .int), Cond.fieldLink RX5 26 "PhaseConverterModel" "thrown" "I", Cond.methodLink RX5 91 yX5_within, Cond.static yX5_within, Cond.code yX5_within cX5_within 3 (some .boolean), Cond.methodLink RL 68 yX5_thrown, Cond.instanceMethod yX5_thrown, Cond.selects RX5 yX5_thrown yX5_thrown, Cond.code yX5_thrown cX5_thrown 1 (some .int), Cond.methodLink RL 71 yL_set, Cond.static yL_set, Cond.codeWith yL_set cL_set 5 (some .int) [(0, 10, 13, 19), (0, 10, 17, 13)], Cond.classLink RL 19 "java/lang/IndexOutOfBoundsException", Cond.methodLink RL 15 yX4_set, Cond.instanceMethod yX4_set, Cond.selects RX4 yX4_set yX4_set, Cond.code yX4_set cX4_set 4 (some .int), Cond.classLink RX4 56 "java/lang/IndexOutOfBoundsException", Cond.initialized "java/lang/IndexOutOfBoundsException", Cond.fieldLink RX4 67 "PhaseConverter$Plant" "settings" "[I", Cond.methodLink RX4 52 yX4_isSetting]
def wsL_law0_r7 : List Cond := [Cond.static yX4_isSetting, Cond.code yX4_isSetting cX4_isSetting 1 (some .boolean), Cond.methodLink RX4 61 yX4_fits, Cond.static yX4_fits, Cond.code yX4_fits cX4_fits 2 (some .boolean), Cond.fieldLink RX4 216 "PhaseConverter" "LEAST" "[I", Cond.fieldLink RX4 219 "PhaseConverter" "GREATEST" "[I", Cond.methodLink RL 74 yX5_set, Cond.instanceMethod yX5_set, Cond.selects RX5 yX5_set yX5_set, Cond.code yX5_set cX5_set 4 (some .int), Cond.methodLink RX5 95 yX5_isSetting, Cond.static yX5_isSetting, Cond.code yX5_isSetting cX5_isSetting 1 (some .boolean), Cond.methodLink RX5 99 yX5_lowest, Cond.static yX5_lowest, Cond.code yX5_lowest cX5_lowest 1 (some .int), Cond.methodLink RX5 102 yX5_highest, Cond.static yX5_highest, Cond.code yX5_highest cX5_highest 1 (some .int), Cond.constant RX5 30 (60000), Cond.methodLink RL 75 yL_setting, Cond.static yL_setting, Cond.codeWith yL_setting cL_setting 4 (some .int) [(0, 9, 12, 19)]]
def wsL_law0_r8 : List Cond := [Cond.methodLink RL 21 yX4_setting, Cond.instanceMethod yX4_setting, Cond.selects RX4 yX4_setting yX4_setting, Cond.code yX4_setting cX4_setting 2 (some .int), Cond.methodLink RL 77 yX5_setting, Cond.instanceMethod yX5_setting, Cond.selects RX5 yX5_setting yX5_setting, Cond.code yX5_setting cX5_setting 2 (some .int), Cond.methodLink RL 78 yL_start, Cond.static yL_start, Cond.codeWith yL_start cL_start 3 (some .int) [(0, 8, 11, 28)], Cond.classLink RL 28 "java/lang/IllegalStateException", Cond.methodLink RL 24 yX4_start, Cond.instanceMethod yX4_start, Cond.selects RX4 yX4_start yX4_start, Cond.code yX4_start cX4_start 1 (some .int), Cond.classLink RX4 75 "java/lang/IllegalStateException", Cond.initialized "java/lang/IllegalStateException", Cond.fieldLink RX4 83 "PhaseConverter$Plant" "voltage" "I", Cond.methodLink RX4 71 yX2_runs, Cond.instanceMethod yX2_runs, Cond.selects RX2 yX2_runs yX2_runs, Cond.code yX2_runs cX2_runs 1 (some .boolean), Cond.methodLink RX4 80 yX2_softStart]
def wsL_law0_r9 : List Cond := [Cond.instanceMethod yX2_softStart, Cond.selects RX2 yX2_softStart yX2_softStart, Cond.code yX2_softStart cX2_softStart 2 none, Cond.fieldLink RX2 89 "PhaseConverter$Phase" "rest" "I", Cond.methodLink RL 81 yX5_start, Cond.instanceMethod yX5_start, Cond.selects RX5 yX5_start yX5_start, Cond.code yX5_start cX5_start 2 (some .int), Cond.methodLink RX5 51 yX5_runs, Cond.instanceMethod yX5_runs, Cond.selects RX5 yX5_runs yX5_runs, Cond.code yX5_runs cX5_runs 1 (some .boolean), Cond.methodLink RX5 35 yX5_at, Cond.static yX5_at, Cond.code yX5_at cX5_at 2 (some .int), Cond.methodLink RL 82 yX4_stop, Cond.instanceMethod yX4_stop, Cond.selects RX4 yX4_stop yX4_stop, Cond.code yX4_stop cX4_stop 2 (some .int), Cond.fieldLink RX4 86 "PhaseConverter$Plant" "mode" "I", Cond.methodLink RX4 89 yX2_halt, Cond.instanceMethod yX2_halt, Cond.selects RX2 yX2_halt yX2_halt, Cond.code yX2_halt cX2_halt 3 none]
def wsL_law0_r10 : List Cond := [Cond.fieldLink RX2 92 "PhaseConverter$Phase" "onTime" "I", Cond.methodLink RL 85 yX5_stop, Cond.instanceMethod yX5_stop, Cond.selects RX5 yX5_stop yX5_stop, Cond.code yX5_stop cX5_stop 2 (some .int), Cond.methodLink RX5 66 yX5_stopTo, Cond.instanceMethod yX5_stopTo, Cond.selects RX5 yX5_stopTo yX5_stopTo, Cond.code yX5_stopTo cX5_stopTo 3 none, Cond.methodLink RL 86 yL_run, Cond.static yL_run, Cond.codeWith yL_run cL_run 4 (some .int) [(0, 9, 12, 13), (0, 9, 15, 28)], Cond.methodLink RL 30 yX4_run, Cond.instanceMethod yX4_run, Cond.selects RX4 yX4_run yX4_run, Cond.code yX4_run cX4_run 2 (some .int), Cond.methodLink RX4 92 yX4_isRunLength, Cond.static yX4_isRunLength, Cond.code yX4_isRunLength cX4_isRunLength 1 (some .boolean), Cond.methodLink RX4 97 yX4_hasRoomFor, Cond.instanceMethod yX4_hasRoomFor, Cond.selects RX4 yX4_hasRoomFor yX4_hasRoomFor, Cond.code yX4_hasRoomFor cX4_hasRoomFor 2 (some .boolean), Cond.fieldLink RX4 222 "PhaseConverter$Plant" "cycles" "I"]
def wsL_law0_r11 : List Cond := [Cond.constant RX4 225 (100000), Cond.methodLink RX4 102 yX4_passCycles, Cond.instanceMethod yX4_passCycles, Cond.selects RX4 yX4_passCycles yX4_passCycles, Cond.code yX4_passCycles cX4_passCycles 4 none, Cond.methodLink RX4 226 yX2_limitEvents, Cond.instanceMethod yX2_limitEvents, Cond.selects RX2 yX2_limitEvents yX2_limitEvents, Cond.code yX2_limitEvents cX2_limitEvents 3 (some .int), Cond.fieldLink RX2 162 "PhaseConverter$Phase" "limitEvents" "I", Cond.methodLink RX4 176 yX2_passCycle, Cond.instanceMethod yX2_passCycle, Cond.selects RX2 yX2_passCycle yX2_passCycle, Cond.code yX2_passCycle cX2_passCycle 4 none, Cond.methodLink RX2 122 Lib.Math.min.name, Cond.static Lib.Math.min.name, Cond.initialized "java/lang/Math", Cond.code Lib.Math.min.name Lib.Math.min.code 2 (some .int), Cond.methodLink RX2 128 Lib.Math.max.name, Cond.static Lib.Math.max.name, Cond.code Lib.Math.max.name Lib.Math.max.code 2 (some .int), Cond.methodLink RX2 95 yX2_runs, Cond.methodLink RX2 99 yX2_halt, Cond.methodLink RX2 103 yX2_moveTarget]
def wsL_law0_r12 : List Cond := [Cond.instanceMethod yX2_moveTarget, Cond.selects RX2 yX2_moveTarget yX2_moveTarget, Cond.code yX2_moveTarget cX2_moveTarget 2 none, Cond.methodLink RX2 106 yX2_regulate, Cond.instanceMethod yX2_regulate, Cond.selects RX2 yX2_regulate yX2_regulate, Cond.code yX2_regulate cX2_regulate 5 none, Cond.constant RX2 131 (-100000), Cond.constant RX2 132 (100000), Cond.static yX4_clamp, Cond.code yX4_clamp cX4_clamp 3 (some .int), Cond.static yX4_quotient, Cond.code yX4_quotient cX4_quotient 2 (some .int), Cond.methodLink RX2 109 yX2_adaptPhases, Cond.instanceMethod yX2_adaptPhases, Cond.selects RX2 yX2_adaptPhases yX2_adaptPhases, Cond.code yX2_adaptPhases cX2_adaptPhases 3 none, Cond.methodLink RX2 140 yX2_changeActive, Cond.instanceMethod yX2_changeActive, Cond.selects RX2 yX2_changeActive yX2_changeActive, Cond.code yX2_changeActive cX2_changeActive 2 none, Cond.methodLink RX2 112 yX2_beginPulses, Cond.instanceMethod yX2_beginPulses, Cond.selects RX2 yX2_beginPulses yX2_beginPulses]
def wsL_law0_r13 : List Cond := [Cond.code yX2_beginPulses cX2_beginPulses 3 none, Cond.methodLink RX2 143 yX2_beginPulse, Cond.instanceMethod yX2_beginPulse, Cond.selects RX2 yX2_beginPulse yX2_beginPulse, Cond.code yX2_beginPulse cX2_beginPulse 5 none, Cond.fieldLink RX2 149 "PhaseConverter$Phase" "current" "I", Cond.methodLink RX2 146 yX1_skipPulse, Cond.instanceMethod yX1_skipPulse, Cond.selects RX1 yX1_skipPulse yX1_skipPulse, Cond.code yX1_skipPulse cX1_skipPulse 1 none, Cond.methodLink RX2 152 yX2_activeCurrents, Cond.instanceMethod yX2_activeCurrents, Cond.selects RX2 yX2_activeCurrents yX2_activeCurrents, Cond.code yX2_activeCurrents cX2_activeCurrents 3 (some .int), Cond.methodLink RX2 155 yX1_beginPulse, Cond.instanceMethod yX1_beginPulse, Cond.selects RX1 yX1_beginPulse yX1_beginPulse, Cond.code yX1_beginPulse cX1_beginPulse 2 none, Cond.methodLink RX2 115 yX2_moveCurrents, Cond.instanceMethod yX2_moveCurrents, Cond.selects RX2 yX2_moveCurrents yX2_moveCurrents, Cond.code yX2_moveCurrents cX2_moveCurrents 7 (some .int), Cond.methodLink RX2 157 yX1_passSlot, Cond.instanceMethod yX1_passSlot]
def wsL_law0_r14 : List Cond := [Cond.selects RX1 yX1_passSlot yX1_passSlot, Cond.code yX1_passSlot cX1_passSlot 4 none, Cond.methodLink RX2 119 yX2_moveVoltage, Cond.instanceMethod yX2_moveVoltage, Cond.selects RX2 yX2_moveVoltage yX2_moveVoltage, Cond.code yX2_moveVoltage cX2_moveVoltage 3 none, Cond.constant RX2 161 (40000), Cond.methodLink RX4 229 yX0_keep, Cond.instanceMethod yX0_keep, Cond.selects RX0 yX0_keep yX0_keep, Cond.code yX0_keep cX0_keep 4 none, Cond.methodLink RX0 22 Lib.Math.min.name, Cond.fieldLink RX0 28 "PhaseConverter$Plant" "voltage" "I", Cond.fieldLink RX0 33 "PhaseConverter$Plant" "meanCurrent" "I", Cond.fieldLink RX0 40 "PhaseConverter$Plant" "active" "I", Cond.fieldLink RX0 43 "PhaseConverter$Plant" "mode" "I", Cond.methodLink RX0 36 yX2_ripple, Cond.instanceMethod yX2_ripple, Cond.selects RX2 yX2_ripple yX2_ripple, Cond.code yX2_ripple cX2_ripple 1 (some .int), Cond.methodLink RL 88 yX5_run, Cond.instanceMethod yX5_run, Cond.selects RX5 yX5_run yX5_run, Cond.code yX5_run cX5_run 3 (some .int)]
def wsL_law0_r15 : List Cond := [Cond.constant RX5 40 (100000), Cond.methodLink RX5 105 yX5_layExtremes, Cond.instanceMethod yX5_layExtremes, Cond.selects RX5 yX5_layExtremes yX5_layExtremes, Cond.code yX5_layExtremes cX5_layExtremes 1 none, Cond.constant RX5 75 (1000000), Cond.fieldLink RX5 69 "PhaseConverterModel" "least" "I", Cond.fieldLink RX5 72 "PhaseConverterModel" "most" "I", Cond.fieldLink RX5 62 "PhaseConverterModel" "strongest" "I", Cond.methodLink RX5 108 yX5_cycle, Cond.instanceMethod yX5_cycle, Cond.selects RX5 yX5_cycle yX5_cycle, Cond.code yX5_cycle cX5_cycle 7 none, Cond.methodLink RX5 76 yX5_aim, Cond.instanceMethod yX5_aim, Cond.selects RX5 yX5_aim yX5_aim, Cond.code yX5_aim cX5_aim 1 none, Cond.methodLink RX5 79 yX5_regulate, Cond.instanceMethod yX5_regulate, Cond.selects RX5 yX5_regulate yX5_regulate, Cond.code yX5_regulate cX5_regulate 2 none, Cond.constant RX5 39 (-100000), Cond.methodLink RX5 41 yX5_clamped, Cond.static yX5_clamped]
def wsL_law0_r16 : List Cond := [Cond.code yX5_clamped cX5_clamped 3 (some .int), Cond.methodLink RX5 82 yX5_choosePhases, Cond.instanceMethod yX5_choosePhases, Cond.selects RX5 yX5_choosePhases yX5_choosePhases, Cond.code yX5_choosePhases cX5_choosePhases 3 none, Cond.methodLink RX5 45 yX5_changePhases, Cond.instanceMethod yX5_changePhases, Cond.selects RX5 yX5_changePhases yX5_changePhases, Cond.code yX5_changePhases cX5_changePhases 2 none, Cond.methodLink RX5 85 yX5_slot, Cond.instanceMethod yX5_slot, Cond.selects RX5 yX5_slot yX5_slot, Cond.code yX5_slot cX5_slot 4 none, Cond.constant RX5 65 (40000), Cond.methodLink RX5 55 yX5_beginPulse, Cond.instanceMethod yX5_beginPulse, Cond.selects RX5 yX5_beginPulse yX5_beginPulse, Cond.code yX5_beginPulse cX5_beginPulse 6 none, Cond.methodLink RX5 48 yX5_sum, Cond.instanceMethod yX5_sum, Cond.selects RX5 yX5_sum yX5_sum, Cond.code yX5_sum cX5_sum 4 (some .int), Cond.methodLink RX5 59 yX5_step, Cond.instanceMethod yX5_step]
def wsL_law0_r17 : List Cond := [Cond.selects RX5 yX5_step yX5_step, Cond.code yX5_step cX5_step 2 none, Cond.methodLink RX5 88 yX5_record, Cond.instanceMethod yX5_record, Cond.selects RX5 yX5_record yX5_record, Cond.code yX5_record cX5_record 3 none, Cond.methodLink RL 89 yL_append, Cond.static yL_append, Cond.codeWith yL_append cL_append 4 (some .int) [(0, 9, 12, 13), (0, 9, 15, 28)], Cond.methodLink RL 33 yX4_append, Cond.instanceMethod yX4_append, Cond.selects RX4 yX4_append yX4_append, Cond.code yX4_append cX4_append 2 (some .int), Cond.fieldLink RX4 112 "PhaseConverter$Program" "length" "I", Cond.methodLink RX4 107 yX3_take, Cond.instanceMethod yX3_take, Cond.selects RX3 yX3_take yX3_take, Cond.code yX3_take cX3_take 2 (some .boolean), Cond.fieldLink RX3 15 "PhaseConverter$Program" "length" "I", Cond.methodLink RL 91 yX5_append, Cond.instanceMethod yX5_append, Cond.selects RX5 yX5_append yX5_append, Cond.code yX5_append cX5_append 2 (some .int), Cond.fieldLink RX5 111 "PhaseConverterModel" "length" "I"]
def wsL_law0_r18 : List Cond := [Cond.methodLink RL 92 yX4_clearBuffer, Cond.instanceMethod yX4_clearBuffer, Cond.selects RX4 yX4_clearBuffer yX4_clearBuffer, Cond.code yX4_clearBuffer cX4_clearBuffer 2 (some .int), Cond.methodLink RL 95 yX5_clearBuffer, Cond.instanceMethod yX5_clearBuffer, Cond.selects RX5 yX5_clearBuffer yX5_clearBuffer, Cond.code yX5_clearBuffer cX5_clearBuffer 2 (some .int), Cond.methodLink RL 96 yX4_firstError, Cond.instanceMethod yX4_firstError, Cond.selects RX4 yX4_firstError yX4_firstError, Cond.code yX4_firstError cX4_firstError 1 (some .int), Cond.methodLink RX4 115 yX3_errorIndex, Cond.instanceMethod yX3_errorIndex, Cond.selects RX3 yX3_errorIndex yX3_errorIndex, Cond.code yX3_errorIndex cX3_errorIndex 3 (some .int), Cond.methodLink RX3 19 yX3_codeAt, Cond.instanceMethod yX3_codeAt, Cond.selects RX3 yX3_codeAt yX3_codeAt, Cond.code yX3_codeAt cX3_codeAt 2 (some .int), Cond.methodLink RX3 23 yX3_stateAfter, Cond.static yX3_stateAfter, Cond.code yX3_stateAfter cX3_stateAfter 2 (some .int), Cond.methodLink RX3 27 yX3_stateAfterLetter]
def wsL_law0_r19 : List Cond := [Cond.static yX3_stateAfterLetter, Cond.code yX3_stateAfterLetter cX3_stateAfterLetter 1 (some .int), Cond.static yX4_isDigit, Cond.code yX4_isDigit cX4_isDigit 1 (some .boolean), Cond.methodLink RL 99 yX5_firstError, Cond.instanceMethod yX5_firstError, Cond.selects RX5 yX5_firstError yX5_firstError, Cond.code yX5_firstError cX5_firstError 1 (some .int), Cond.methodLink RX5 137 yX5_readText, Cond.instanceMethod yX5_readText, Cond.selects RX5 yX5_readText yX5_readText, Cond.code yX5_readText cX5_readText 2 (some .int), Cond.fieldLink RX5 123 "PhaseConverterModel" "step" "I", Cond.fieldLink RX5 131 "PhaseConverterModel" "items" "I", Cond.methodLink RX5 134 yX5_takes, Cond.instanceMethod yX5_takes, Cond.selects RX5 yX5_takes yX5_takes, Cond.code yX5_takes cX5_takes 3 (some .boolean), Cond.fieldLink RX5 117 "PhaseConverterModel" "number" "I", Cond.fieldLink RX5 120 "PhaseConverterModel" "digits" "I", Cond.methodLink RX5 125 yX5_takesSign, Cond.instanceMethod yX5_takesSign, Cond.selects RX5 yX5_takesSign yX5_takesSign, Cond.code yX5_takesSign cX5_takesSign 4 (some .boolean)]
def wsL_law0_r20 : List Cond := [Cond.fieldLink RX5 114 "PhaseConverterModel" "sign" "I", Cond.methodLink RX5 128 yX5_endItem, Cond.instanceMethod yX5_endItem, Cond.selects RX5 yX5_endItem yX5_endItem, Cond.code yX5_endItem cX5_endItem 1 none, Cond.methodLink RL 100 yL_play, Cond.static yL_play, Cond.codeWith yL_play cL_play 3 (some .int) [(0, 8, 11, 13)], Cond.methodLink RL 36 yX4_play, Cond.instanceMethod yX4_play, Cond.selects RX4 yX4_play yX4_play, Cond.code yX4_play cX4_play 7 (some .int), Cond.methodLink RX4 119 yX3_isComplete, Cond.instanceMethod yX3_isComplete, Cond.selects RX3 yX3_isComplete yX3_isComplete, Cond.code yX3_isComplete cX3_isComplete 3 (some .boolean), Cond.methodLink RX4 124 yX3_codeAt, Cond.methodLink RX4 128 yX4_isPossible, Cond.instanceMethod yX4_isPossible, Cond.selects RX4 yX4_isPossible yX4_isPossible, Cond.code yX4_isPossible cX4_isPossible 3 (some .boolean), Cond.methodLink RX4 233 yX4_settingOf, Cond.static yX4_settingOf, Cond.code yX4_settingOf cX4_settingOf 1 (some .int)]
def wsL_law0_r21 : List Cond := [Cond.methodLink RX4 131 yX4_carryOut, Cond.instanceMethod yX4_carryOut, Cond.selects RX4 yX4_carryOut yX4_carryOut, Cond.code yX4_carryOut cX4_carryOut 4 none, Cond.methodLink RX4 135 yX4_isDigit, Cond.methodLink RL 102 yX5_play, Cond.instanceMethod yX5_play, Cond.selects RX5 yX5_play yX5_play, Cond.code yX5_play cX5_play 3 (some .int), Cond.methodLink RX5 153 yX5_does, Cond.instanceMethod yX5_does, Cond.selects RX5 yX5_does yX5_does, Cond.code yX5_does cX5_does 3 (some .boolean), Cond.methodLink RX5 141 yX5_start, Cond.methodLink RX5 144 yX5_stop, Cond.methodLink RX5 147 yX5_run, Cond.methodLink RX5 150 yX5_set, Cond.methodLink RL 103 yL_count, Cond.static yL_count, Cond.codeWith yL_count cL_count 4 (some .int) [(0, 9, 12, 13)], Cond.methodLink RL 39 yX4_count, Cond.instanceMethod yX4_count, Cond.selects RX4 yX4_count yX4_count, Cond.code yX4_count cX4_count 2 (some .int)]
def wsL_law0_r22 : List Cond := [Cond.methodLink RX4 140 yX4_number, Cond.instanceMethod yX4_number, Cond.selects RX4 yX4_number yX4_number, Cond.code yX4_number cX4_number 2 (some .int), Cond.fieldLink RX4 156 "PhaseConverter$History" "size" "I", Cond.methodLink RX4 236 yX2_number, Cond.instanceMethod yX2_number, Cond.selects RX2 yX2_number yX2_number, Cond.code yX2_number cX2_number 2 (some .int), Cond.methodLink RX2 168 yX2_ripple, Cond.methodLink RX2 171 yX2_limitEvents, Cond.methodLink RX2 173 yX2_skippedPulses, Cond.instanceMethod yX2_skippedPulses, Cond.selects RX2 yX2_skippedPulses yX2_skippedPulses, Cond.code yX2_skippedPulses cX2_skippedPulses 3 (some .int), Cond.fieldLink RX2 165 "PhaseConverter$Phase" "skipped" "I", Cond.methodLink RL 105 yX5_count, Cond.instanceMethod yX5_count, Cond.selects RX5 yX5_count yX5_count, Cond.code yX5_count cX5_count 2 (some .int), Cond.methodLink RX5 157 yX5_place, Cond.static yX5_place, Cond.code yX5_place cX5_place 1 (some .int), Cond.methodLink RL 106 yL_phase]
def wsL_law0_r23 : List Cond := [Cond.static yL_phase, Cond.codeWith yL_phase cL_phase 5 (some .int) [(0, 10, 13, 19), (0, 10, 17, 13)], Cond.methodLink RL 42 yX4_phase, Cond.instanceMethod yX4_phase, Cond.selects RX4 yX4_phase yX4_phase, Cond.code yX4_phase cX4_phase 3 (some .int), Cond.fieldLink RX4 143 "PhaseConverter$Plant" "phases" "[LPhaseConverter$Phase;", Cond.methodLink RX4 151 yX1_property, Cond.instanceMethod yX1_property, Cond.selects RX1 yX1_property yX1_property, Cond.code yX1_property cX1_property 2 (some .int), Cond.methodLink RL 108 yX5_phase, Cond.instanceMethod yX5_phase, Cond.selects RX5 yX5_phase yX5_phase, Cond.code yX5_phase cX5_phase 3 (some .int), Cond.methodLink RL 109 yL_record, Cond.static yL_record, Cond.codeWith yL_record cL_record 5 (some .int) [(0, 10, 13, 19), (0, 10, 17, 13)], Cond.methodLink RL 45 yX4_record, Cond.instanceMethod yX4_record, Cond.selects RX4 yX4_record yX4_record, Cond.code yX4_record cX4_record 3 (some .int), Cond.methodLink RX4 163 yX0_part, Cond.instanceMethod yX0_part]
def wsL_law0_r24 : List Cond := [Cond.selects RX0 yX0_part yX0_part, Cond.code yX0_part cX0_part 5 (some .int), Cond.methodLink RL 111 yX5_record_, Cond.instanceMethod yX5_record_, Cond.selects RX5 yX5_record_ yX5_record_, Cond.code yX5_record_ cX5_record_ 3 (some .int), Cond.methodLink RL 112 yL_ifLoaded, Cond.static yL_ifLoaded, Cond.codeWith yL_ifLoaded cL_ifLoaded 6 (some .int) [(0, 12, 15, 13)], Cond.methodLink RL 48 yX4_ifLoaded, Cond.instanceMethod yX4_ifLoaded, Cond.selects RX4 yX4_ifLoaded yX4_ifLoaded, Cond.code yX4_ifLoaded cX4_ifLoaded 7 (some .int), Cond.fieldLink RX4 172 "PhaseConverter$Plant" "peakCurrent" "I", Cond.constant RX4 175 (40000), Cond.fieldLink RX4 179 "PhaseConverter$Plant" "leastVoltage" "I", Cond.methodLink RX4 182 Lib.Math.min.name, Cond.fieldLink RX4 187 "PhaseConverter$Plant" "greatestVoltage" "I", Cond.methodLink RX4 190 Lib.Math.max.name, Cond.fieldLink RX4 193 "PhaseConverter$Plant" "active" "I", Cond.methodLink RX4 169 yX4_beginTrial, Cond.instanceMethod yX4_beginTrial, Cond.selects RX4 yX4_beginTrial yX4_beginTrial, Cond.code yX4_beginTrial cX4_beginTrial 1 none]
def wsL_law0_r25 : List Cond := [Cond.methodLink RX4 237 yX2_copyFrom, Cond.instanceMethod yX2_copyFrom, Cond.selects RX2 yX2_copyFrom yX2_copyFrom, Cond.code yX2_copyFrom cX2_copyFrom 3 none, Cond.methodLink RX2 85 yX1_copyFrom, Cond.instanceMethod yX1_copyFrom, Cond.selects RX1 yX1_copyFrom yX1_copyFrom, Cond.code yX1_copyFrom cX1_copyFrom 2 none, Cond.methodLink RL 115 yX5_ifLoaded, Cond.instanceMethod yX5_ifLoaded, Cond.selects RX5 yX5_ifLoaded yX5_ifLoaded, Cond.code yX5_ifLoaded cX5_ifLoaded 5 (some .int), Cond.methodLink RX5 160 yX5_keep, Cond.instanceMethod yX5_keep, Cond.selects RX5 yX5_keep yX5_keep, Cond.code yX5_keep cX5_keep 2 none, Cond.methodLink RX5 163 yX5_takeBack, Cond.instanceMethod yX5_takeBack, Cond.selects RX5 yX5_takeBack yX5_takeBack, Cond.code yX5_takeBack cX5_takeBack 2 none, Cond.methodLink RL 116 yL_settles, Cond.static yL_settles, Cond.codeWith yL_settles cL_settles 4 (some .int) [(0, 9, 12, 13)], Cond.methodLink RL 52 yX4_settles]
def wsL_law0_r26 : List Cond := [Cond.instanceMethod yX4_settles, Cond.selects RX4 yX4_settles yX4_settles, Cond.code yX4_settles cX4_settles 5 (some .int), Cond.methodLink RX4 198 Lib.Math.abs.name, Cond.static Lib.Math.abs.name, Cond.code Lib.Math.abs.name Lib.Math.abs.code 1 (some .int), Cond.methodLink RL 118 yX5_settles, Cond.instanceMethod yX5_settles, Cond.selects RX5 yX5_settles yX5_settles, Cond.code yX5_settles cX5_settles 2 (some .int), Cond.methodLink RX5 166 yX5_settledAt, Cond.instanceMethod yX5_settledAt, Cond.selects RX5 yX5_settledAt yX5_settledAt, Cond.code yX5_settledAt cX5_settledAt 4 (some .int), Cond.methodLink RL 119 yL_greatestLoad, Cond.static yL_greatestLoad, Cond.codeWith yL_greatestLoad cL_greatestLoad 4 (some .int) [(0, 9, 12, 13)], Cond.methodLink RL 55 yX4_greatestLoad, Cond.instanceMethod yX4_greatestLoad, Cond.selects RX4 yX4_greatestLoad yX4_greatestLoad, Cond.code yX4_greatestLoad cX4_greatestLoad 3 (some .int), Cond.methodLink RX4 203 yX4_holdsLevel, Cond.instanceMethod yX4_holdsLevel, Cond.selects RX4 yX4_holdsLevel yX4_holdsLevel]
def wsL_law0_r27 : List Cond := [Cond.code yX4_holdsLevel cX4_holdsLevel 4 (some .boolean), Cond.methodLink RL 121 yX5_greatestLoad, Cond.instanceMethod yX5_greatestLoad, Cond.selects RX5 yX5_greatestLoad yX5_greatestLoad, Cond.code yX5_greatestLoad cX5_greatestLoad 3 (some .int), Cond.methodLink RX5 169 yX5_holds, Cond.instanceMethod yX5_holds, Cond.selects RX5 yX5_holds yX5_holds, Cond.code yX5_holds cX5_holds 4 (some .boolean), Cond.methodLink RL 122 yX4_unbalance, Cond.instanceMethod yX4_unbalance, Cond.selects RX4 yX4_unbalance yX4_unbalance, Cond.code yX4_unbalance cX4_unbalance 1 (some .int), Cond.methodLink RX4 206 yX2_currentSpread, Cond.instanceMethod yX2_currentSpread, Cond.selects RX2 yX2_currentSpread yX2_currentSpread, Cond.code yX2_currentSpread cX2_currentSpread 4 (some .int), Cond.methodLink RL 125 yX5_unbalance, Cond.instanceMethod yX5_unbalance, Cond.selects RX5 yX5_unbalance yX5_unbalance, Cond.code yX5_unbalance cX5_unbalance 1 (some .int), Cond.methodLink RX5 172 yX5_unlike, Cond.instanceMethod yX5_unlike, Cond.selects RX5 yX5_unlike yX5_unlike]
def wsL_law0_r28 : List Cond := [Cond.code yX5_unlike cX5_unlike 5 (some .int), Cond.methodLink RL 126 yX4_meanVoltage, Cond.instanceMethod yX4_meanVoltage, Cond.selects RX4 yX4_meanVoltage yX4_meanVoltage, Cond.code yX4_meanVoltage cX4_meanVoltage 4 (some .double), Cond.methodLink RL 130 yX5_meanVoltage, Cond.instanceMethod yX5_meanVoltage, Cond.selects RX5 yX5_meanVoltage yX5_meanVoltage, Cond.code yX5_meanVoltage cX5_meanVoltage 3 (some .double), Cond.methodLink RL 131 yX4_digest, Cond.instanceMethod yX4_digest, Cond.selects RX4 yX4_digest yX4_digest, Cond.code yX4_digest cX4_digest 5 (some .long), Cond.constantLong RX4 209 (2017), Cond.constantLong RX4 211 (31), Cond.methodLink RX4 213 yX4_settles, Cond.methodLink RL 135 yX5_digest, Cond.instanceMethod yX5_digest, Cond.selects RX5 yX5_digest yX5_digest, Cond.code yX5_digest cX5_digest 2 (some .long), Cond.constantLong RX5 181 (2017), Cond.fieldLink RX5 177 "PhaseConverterModel" "h" "J", Cond.methodLink RX5 183 yX5_mix, Cond.instanceMethod yX5_mix]
def wsL_law0_r29 : List Cond := [Cond.selects RX5 yX5_mix yX5_mix, Cond.code yX5_mix cX5_mix 3 none, Cond.constantLong RX5 175 (31)]
def wsL_law0 : List Cond := (wsL_law0_r1 ++ (wsL_law0_r2 ++ (wsL_law0_r3 ++ (wsL_law0_r4 ++ (wsL_law0_r5 ++ (wsL_law0_r6 ++ (wsL_law0_r7 ++ (wsL_law0_r8 ++ (wsL_law0_r9 ++ (wsL_law0_r10 ++ (wsL_law0_r11 ++ (wsL_law0_r12 ++ (wsL_law0_r13 ++ (wsL_law0_r14 ++ (wsL_law0_r15 ++ (wsL_law0_r16 ++ (wsL_law0_r17 ++ (wsL_law0_r18 ++ (wsL_law0_r19 ++ (wsL_law0_r20 ++ (wsL_law0_r21 ++ (wsL_law0_r22 ++ (wsL_law0_r23 ++ (wsL_law0_r24 ++ (wsL_law0_r25 ++ (wsL_law0_r26 ++ (wsL_law0_r27 ++ (wsL_law0_r28 ++ wsL_law0_r29)))))))))))))))))))))))))))) ++ wsX40 ++ wsX50 ++ wsX20 ++ wsX00 ++ wsX30 ++ wsX10 ++ ([] : List Cond)
def wsL_law : List Cond := wsL_law0 ++ (vx_atS RX4 39 "java/lang/IllegalArgumentException" ["java/lang/RuntimeException", "java/lang/Exception"]).filter goodWord ++ (vx_atS RX4 60 "java/lang/IndexOutOfBoundsException" ["java/lang/RuntimeException", "java/lang/Exception"]).filter goodWord ++ (vx_atS RX4 79 "java/lang/IllegalStateException" ["java/lang/RuntimeException", "java/lang/Exception"]).filter goodWord
abbrev vwCl : List vw_C := [(RX0, TX0, 3), (RX1, TX1, 7), (RX2, TX2, 17), (RX3, TX3, 2), (RX4, TX4, 4), (RX5, TX5, 15)]
end
section
set_option maxRecDepth 20000 in
theorem ggX5_init_X5_fresh : GoodIn wsX5_init wsX5_fresh := goodIn_r _ [13, 5, 14, 15, 12, 16, 17, 18, 19, 20, 21, 22, 23, 24, 25, 26, 27, 28, 29, 30, 31] (by decide +kernel) (by decide +kernel)
set_option maxRecDepth 20000 in
theorem gX5_init_X5_fresh : GoodIn wsX5_init (wsV RX5 22 RX5 yX5_fresh wsX5_fresh) := goodIn_app (goodIn_of _ (by decide +kernel)) ggX5_init_X5_fresh
theorem dX5_init_0 : decode cX5_init 0 = .ok (.aload_n 0, 1) := by decide +kernel
theorem dX5_init_1 : decode cX5_init 1 = .ok (.invokespecial 1, 3) := by decide +kernel
theorem dX5_init_4 : decode cX5_init 4 = .ok (.aload_n 0, 1) := by decide +kernel
theorem dX5_init_5 : decode cX5_init 5 = .ok (.sipush 159, 3) := by decide +kernel
theorem dX5_init_8 : decode cX5_init 8 = .ok (.newarray .int, 2) := by decide +kernel
theorem dX5_init_10 : decode cX5_init 10 = .ok (.putfield 7, 3) := by decide +kernel
theorem dX5_init_13 : decode cX5_init 13 = .ok (.aload_n 0, 1) := by decide +kernel
theorem dX5_init_14 : decode cX5_init 14 = .ok (.sipush 159, 3) := by decide +kernel
theorem dX5_init_17 : decode cX5_init 17 = .ok (.newarray .int, 2) := by decide +kernel
theorem dX5_init_19 : decode cX5_init 19 = .ok (.putfield 13, 3) := by decide +kernel
theorem dX5_init_22 : decode cX5_init 22 = .ok (.aload_n 0, 1) := by decide +kernel
theorem dX5_init_23 : decode cX5_init 23 = .ok (.bipush 50, 2) := by decide +kernel
theorem dX5_init_25 : decode cX5_init 25 = .ok (.newarray .int, 2) := by decide +kernel
theorem dX5_init_27 : decode cX5_init 27 = .ok (.putfield 16, 3) := by decide +kernel
theorem dX5_init_30 : decode cX5_init 30 = .ok (.aload_n 0, 1) := by decide +kernel
theorem dX5_init_31 : decode cX5_init 31 = .ok (.bipush 100, 2) := by decide +kernel
theorem dX5_init_33 : decode cX5_init 33 = .ok (.newarray .int, 2) := by decide +kernel
theorem dX5_init_35 : decode cX5_init 35 = .ok (.putfield 19, 3) := by decide +kernel
theorem dX5_init_38 : decode cX5_init 38 = .ok (.aload_n 0, 1) := by decide +kernel
theorem dX5_init_39 : decode cX5_init 39 = .ok (.iconst 2, 1) := by decide +kernel
theorem dX5_init_40 : decode cX5_init 40 = .ok (.invokevirtual 22, 3) := by decide +kernel
theorem dX5_init_43 : decode cX5_init 43 = .ok (.return_, 1) := by decide +kernel
theorem dX5_thrown_0 : decode cX5_thrown 0 = .ok (.aload_n 0, 1) := by decide +kernel
theorem dX5_thrown_1 : decode cX5_thrown 1 = .ok (.getfield 26, 3) := by decide +kernel
theorem dX5_thrown_4 : decode cX5_thrown 4 = .ok (.ireturn, 1) := by decide +kernel
theorem dX5_within_0 : decode cX5_within 0 = .ok (.iload_n 0, 1) := by decide +kernel
theorem dX5_within_1 : decode cX5_within 1 = .ok (.iload_n 1, 1) := by decide +kernel
theorem dX5_within_2 : decode cX5_within 2 = .ok (.if_icmp .lt 12, 3) := by decide +kernel
theorem dX5_within_5 : decode cX5_within 5 = .ok (.iload_n 0, 1) := by decide +kernel
theorem dX5_within_6 : decode cX5_within 6 = .ok (.iload_n 2, 1) := by decide +kernel
theorem dX5_within_7 : decode cX5_within 7 = .ok (.if_icmp .gt 7, 3) := by decide +kernel
theorem dX5_within_10 : decode cX5_within 10 = .ok (.iconst 1, 1) := by decide +kernel
theorem dX5_within_11 : decode cX5_within 11 = .ok (.goto 4, 3) := by decide +kernel
theorem dX5_within_14 : decode cX5_within 14 = .ok (.iconst 0, 1) := by decide +kernel
theorem dX5_within_15 : decode cX5_within 15 = .ok (.ireturn, 1) := by decide +kernel
theorem dX5_clamped_0 : decode cX5_clamped 0 = .ok (.iload_n 0, 1) := by decide +kernel
theorem dX5_clamped_1 : decode cX5_clamped 1 = .ok (.iload_n 1, 1) := by decide +kernel
theorem dX5_clamped_2 : decode cX5_clamped 2 = .ok (.if_icmp .ge 7, 3) := by decide +kernel
theorem dX5_clamped_5 : decode cX5_clamped 5 = .ok (.iload_n 1, 1) := by decide +kernel
theorem dX5_clamped_6 : decode cX5_clamped 6 = .ok (.goto 13, 3) := by decide +kernel
theorem dX5_clamped_9 : decode cX5_clamped 9 = .ok (.iload_n 0, 1) := by decide +kernel
theorem dX5_clamped_10 : decode cX5_clamped 10 = .ok (.iload_n 2, 1) := by decide +kernel
theorem dX5_clamped_11 : decode cX5_clamped 11 = .ok (.if_icmp .le 7, 3) := by decide +kernel
theorem dX5_clamped_14 : decode cX5_clamped 14 = .ok (.iload_n 2, 1) := by decide +kernel
theorem dX5_clamped_15 : decode cX5_clamped 15 = .ok (.goto 4, 3) := by decide +kernel
theorem dX5_clamped_18 : decode cX5_clamped 18 = .ok (.iload_n 0, 1) := by decide +kernel
theorem dX5_clamped_19 : decode cX5_clamped 19 = .ok (.ireturn, 1) := by decide +kernel
theorem dX5_first_0 : decode cX5_first 0 = .ok (.iload_n 0, 1) := by decide +kernel
theorem dX5_first_1 : decode cX5_first 1 = .ok (.tableswitch 112 0 14 #[75, 79, 83, 87, 90, 93, 90, 87, 97, 100, 104, 83, 108, 112, 97], 75) := by decide +kernel
theorem dX5_first_76 : decode cX5_first 76 = .ok (.sipush 12000, 3) := by decide +kernel
theorem dX5_first_79 : decode cX5_first 79 = .ok (.ireturn, 1) := by decide +kernel
theorem dX5_first_80 : decode cX5_first 80 = .ok (.sipush 3300, 3) := by decide +kernel
theorem dX5_first_83 : decode cX5_first 83 = .ok (.ireturn, 1) := by decide +kernel
theorem dX5_first_84 : decode cX5_first 84 = .ok (.sipush 1000, 3) := by decide +kernel
theorem dX5_first_87 : decode cX5_first 87 = .ok (.ireturn, 1) := by decide +kernel
theorem dX5_first_88 : decode cX5_first 88 = .ok (.bipush 20, 2) := by decide +kernel
theorem dX5_first_90 : decode cX5_first 90 = .ok (.ireturn, 1) := by decide +kernel
theorem dX5_first_91 : decode cX5_first 91 = .ok (.bipush 50, 2) := by decide +kernel
theorem dX5_first_93 : decode cX5_first 93 = .ok (.ireturn, 1) := by decide +kernel
theorem dX5_first_94 : decode cX5_first 94 = .ok (.sipush 8000, 3) := by decide +kernel
theorem dX5_first_97 : decode cX5_first 97 = .ok (.ireturn, 1) := by decide +kernel
theorem dX5_first_98 : decode cX5_first 98 = .ok (.bipush 100, 2) := by decide +kernel
theorem dX5_first_100 : decode cX5_first 100 = .ok (.ireturn, 1) := by decide +kernel
theorem dX5_first_101 : decode cX5_first 101 = .ok (.sipush 300, 3) := by decide +kernel
theorem dX5_first_104 : decode cX5_first 104 = .ok (.ireturn, 1) := by decide +kernel
theorem dX5_first_105 : decode cX5_first 105 = .ok (.sipush 3000, 3) := by decide +kernel
theorem dX5_first_108 : decode cX5_first 108 = .ok (.ireturn, 1) := by decide +kernel
theorem dX5_first_109 : decode cX5_first 109 = .ok (.sipush 5000, 3) := by decide +kernel
theorem dX5_first_112 : decode cX5_first 112 = .ok (.ireturn, 1) := by decide +kernel
theorem dX5_first_113 : decode cX5_first 113 = .ok (.sipush 4000, 3) := by decide +kernel
theorem dX5_first_116 : decode cX5_first 116 = .ok (.ireturn, 1) := by decide +kernel
theorem dX5_lowest_0 : decode cX5_lowest 0 = .ok (.iload_n 0, 1) := by decide +kernel
theorem dX5_lowest_1 : decode cX5_lowest 1 = .ok (.tableswitch 80 0 12 #[67, 71, 80, 75, 75, 77, 80, 80, 75, 80, 75, 80, 71], 67) := by decide +kernel
theorem dX5_lowest_68 : decode cX5_lowest 68 = .ok (.sipush 1000, 3) := by decide +kernel
theorem dX5_lowest_71 : decode cX5_lowest 71 = .ok (.ireturn, 1) := by decide +kernel
theorem dX5_lowest_72 : decode cX5_lowest 72 = .ok (.sipush 500, 3) := by decide +kernel
theorem dX5_lowest_75 : decode cX5_lowest 75 = .ok (.ireturn, 1) := by decide +kernel
theorem dX5_lowest_76 : decode cX5_lowest 76 = .ok (.iconst 1, 1) := by decide +kernel
theorem dX5_lowest_77 : decode cX5_lowest 77 = .ok (.ireturn, 1) := by decide +kernel
theorem dX5_lowest_78 : decode cX5_lowest 78 = .ok (.bipush 100, 2) := by decide +kernel
theorem dX5_lowest_80 : decode cX5_lowest 80 = .ok (.ireturn, 1) := by decide +kernel
theorem dX5_lowest_81 : decode cX5_lowest 81 = .ok (.iconst 0, 1) := by decide +kernel
theorem dX5_lowest_82 : decode cX5_lowest 82 = .ok (.ireturn, 1) := by decide +kernel
theorem dX5_highest_0 : decode cX5_highest 0 = .ok (.iload_n 0, 1) := by decide +kernel
theorem dX5_highest_1 : decode cX5_highest 1 = .ok (.tableswitch 105 0 14 #[75, 79, 83, 86, 89, 105, 89, 89, 93, 97, 105, 105, 105, 75, 101], 75) := by decide +kernel
theorem dX5_highest_76 : decode cX5_highest 76 = .ok (.sipush 24000, 3) := by decide +kernel
theorem dX5_highest_79 : decode cX5_highest 79 = .ok (.ireturn, 1) := by decide +kernel
theorem dX5_highest_80 : decode cX5_highest 80 = .ok (.sipush 12000, 3) := by decide +kernel
theorem dX5_highest_83 : decode cX5_highest 83 = .ok (.ireturn, 1) := by decide +kernel
theorem dX5_highest_84 : decode cX5_highest 84 = .ok (.ldc 30, 2) := by decide +kernel
theorem dX5_highest_86 : decode cX5_highest 86 = .ok (.ireturn, 1) := by decide +kernel
theorem dX5_highest_87 : decode cX5_highest 87 = .ok (.bipush 100, 2) := by decide +kernel
theorem dX5_highest_89 : decode cX5_highest 89 = .ok (.ireturn, 1) := by decide +kernel
theorem dX5_highest_90 : decode cX5_highest 90 = .ok (.sipush 500, 3) := by decide +kernel
theorem dX5_highest_93 : decode cX5_highest 93 = .ok (.ireturn, 1) := by decide +kernel
theorem dX5_highest_94 : decode cX5_highest 94 = .ok (.sipush 2000, 3) := by decide +kernel
theorem dX5_highest_97 : decode cX5_highest 97 = .ok (.ireturn, 1) := by decide +kernel
theorem dX5_highest_98 : decode cX5_highest 98 = .ok (.sipush 10000, 3) := by decide +kernel
theorem dX5_highest_101 : decode cX5_highest 101 = .ok (.ireturn, 1) := by decide +kernel
theorem dX5_highest_102 : decode cX5_highest 102 = .ok (.sipush 1000, 3) := by decide +kernel
theorem dX5_highest_105 : decode cX5_highest 105 = .ok (.ireturn, 1) := by decide +kernel
theorem dX5_highest_106 : decode cX5_highest 106 = .ok (.sipush 30000, 3) := by decide +kernel
theorem dX5_highest_109 : decode cX5_highest 109 = .ok (.ireturn, 1) := by decide +kernel
set_option maxRecDepth 20000 in
theorem ggX5_fresh_X5_first : GoodIn wsX5_fresh wsX5_first := goodIn_r _ [5] (by decide +kernel) (by decide +kernel)
set_option maxRecDepth 20000 in
theorem gX5_fresh_X5_first : GoodIn wsX5_fresh (va_wsS RX5 31 yX5_first wsX5_first) := goodIn_app (goodIn_of _ (by decide +kernel)) ggX5_fresh_X5_first
theorem dX5_fresh_0 : decode cX5_fresh 0 = .ok (.iconst 0, 1) := by decide +kernel
theorem dX5_fresh_1 : decode cX5_fresh 1 = .ok (.istore_n 2, 1) := by decide +kernel
theorem dX5_fresh_2 : decode cX5_fresh 2 = .ok (.iload_n 2, 1) := by decide +kernel
theorem dX5_fresh_3 : decode cX5_fresh 3 = .ok (.sipush 159, 3) := by decide +kernel
theorem dX5_fresh_6 : decode cX5_fresh 6 = .ok (.if_icmp .ge 29, 3) := by decide +kernel
theorem dX5_fresh_9 : decode cX5_fresh 9 = .ok (.aload_n 0, 1) := by decide +kernel
theorem dX5_fresh_10 : decode cX5_fresh 10 = .ok (.getfield 7, 3) := by decide +kernel
theorem dX5_fresh_13 : decode cX5_fresh 13 = .ok (.iload_n 2, 1) := by decide +kernel
theorem dX5_fresh_14 : decode cX5_fresh 14 = .ok (.iload_n 2, 1) := by decide +kernel
theorem dX5_fresh_15 : decode cX5_fresh 15 = .ok (.bipush 15, 2) := by decide +kernel
theorem dX5_fresh_17 : decode cX5_fresh 17 = .ok (.if_icmp .ge 10, 3) := by decide +kernel
theorem dX5_fresh_20 : decode cX5_fresh 20 = .ok (.iload_n 2, 1) := by decide +kernel
theorem dX5_fresh_21 : decode cX5_fresh 21 = .ok (.invokestatic 31, 3) := by decide +kernel
theorem dX5_fresh_24 : decode cX5_fresh 24 = .ok (.goto 4, 3) := by decide +kernel
theorem dX5_fresh_27 : decode cX5_fresh 27 = .ok (.iconst 0, 1) := by decide +kernel
theorem dX5_fresh_28 : decode cX5_fresh 28 = .ok (.iastore, 1) := by decide +kernel
theorem dX5_fresh_29 : decode cX5_fresh 29 = .ok (.iinc 2 1, 3) := by decide +kernel
theorem dX5_fresh_32 : decode cX5_fresh 32 = .ok (.goto (-30), 3) := by decide +kernel
theorem dX5_fresh_35 : decode cX5_fresh 35 = .ok (.aload_n 0, 1) := by decide +kernel
theorem dX5_fresh_36 : decode cX5_fresh 36 = .ok (.getfield 7, 3) := by decide +kernel
theorem dX5_fresh_39 : decode cX5_fresh 39 = .ok (.bipush 15, 2) := by decide +kernel
theorem dX5_fresh_41 : decode cX5_fresh 41 = .ok (.iload_n 1, 1) := by decide +kernel
theorem dX5_fresh_42 : decode cX5_fresh 42 = .ok (.iastore, 1) := by decide +kernel
theorem dX5_fresh_43 : decode cX5_fresh 43 = .ok (.aload_n 0, 1) := by decide +kernel
theorem dX5_fresh_44 : decode cX5_fresh 44 = .ok (.getfield 7, 3) := by decide +kernel
theorem dX5_fresh_47 : decode cX5_fresh 47 = .ok (.bipush 16, 2) := by decide +kernel
theorem dX5_fresh_49 : decode cX5_fresh 49 = .ok (.iload_n 1, 1) := by decide +kernel
theorem dX5_fresh_50 : decode cX5_fresh 50 = .ok (.iastore, 1) := by decide +kernel
theorem dX5_fresh_51 : decode cX5_fresh 51 = .ok (.return_, 1) := by decide +kernel
theorem dX5_at_0 : decode cX5_at 0 = .ok (.bipush 35, 2) := by decide +kernel
theorem dX5_at_2 : decode cX5_at 2 = .ok (.bipush 7, 2) := by decide +kernel
theorem dX5_at_4 : decode cX5_at 4 = .ok (.iload_n 0, 1) := by decide +kernel
theorem dX5_at_5 : decode cX5_at 5 = .ok (.imul, 1) := by decide +kernel
theorem dX5_at_6 : decode cX5_at 6 = .ok (.iadd, 1) := by decide +kernel
theorem dX5_at_7 : decode cX5_at 7 = .ok (.iload_n 1, 1) := by decide +kernel
theorem dX5_at_8 : decode cX5_at 8 = .ok (.iadd, 1) := by decide +kernel
theorem dX5_at_9 : decode cX5_at 9 = .ok (.ireturn, 1) := by decide +kernel
theorem dX5_runs_0 : decode cX5_runs 0 = .ok (.aload_n 0, 1) := by decide +kernel
theorem dX5_runs_1 : decode cX5_runs 1 = .ok (.getfield 7, 3) := by decide +kernel
theorem dX5_runs_4 : decode cX5_runs 4 = .ok (.bipush 20, 2) := by decide +kernel
theorem dX5_runs_6 : decode cX5_runs 6 = .ok (.iaload, 1) := by decide +kernel
theorem dX5_runs_7 : decode cX5_runs 7 = .ok (.iconst 1, 1) := by decide +kernel
theorem dX5_runs_8 : decode cX5_runs 8 = .ok (.if_icmp .eq 14, 3) := by decide +kernel
theorem dX5_runs_11 : decode cX5_runs 11 = .ok (.aload_n 0, 1) := by decide +kernel
theorem dX5_runs_12 : decode cX5_runs 12 = .ok (.getfield 7, 3) := by decide +kernel
theorem dX5_runs_15 : decode cX5_runs 15 = .ok (.bipush 20, 2) := by decide +kernel
theorem dX5_runs_17 : decode cX5_runs 17 = .ok (.iaload, 1) := by decide +kernel
theorem dX5_runs_18 : decode cX5_runs 18 = .ok (.iconst 2, 1) := by decide +kernel
theorem dX5_runs_19 : decode cX5_runs 19 = .ok (.if_icmp .ne 7, 3) := by decide +kernel
theorem dX5_runs_22 : decode cX5_runs 22 = .ok (.iconst 1, 1) := by decide +kernel
theorem dX5_runs_23 : decode cX5_runs 23 = .ok (.goto 4, 3) := by decide +kernel
theorem dX5_runs_26 : decode cX5_runs 26 = .ok (.iconst 0, 1) := by decide +kernel
theorem dX5_runs_27 : decode cX5_runs 27 = .ok (.ireturn, 1) := by decide +kernel
set_option maxRecDepth 20000 in
theorem ggX5_stopTo_X5_at : GoodIn wsX5_stopTo wsX5_at := goodIn_r _ [5] (by decide +kernel) (by decide +kernel)
set_option maxRecDepth 20000 in
theorem gX5_stopTo_X5_at : GoodIn wsX5_stopTo (va_wsS RX5 35 yX5_at wsX5_at) := goodIn_app (goodIn_of _ (by decide +kernel)) ggX5_stopTo_X5_at
theorem dX5_stopTo_0 : decode cX5_stopTo 0 = .ok (.aload_n 0, 1) := by decide +kernel
theorem dX5_stopTo_1 : decode cX5_stopTo 1 = .ok (.getfield 7, 3) := by decide +kernel
theorem dX5_stopTo_4 : decode cX5_stopTo 4 = .ok (.bipush 20, 2) := by decide +kernel
theorem dX5_stopTo_6 : decode cX5_stopTo 6 = .ok (.iload_n 1, 1) := by decide +kernel
theorem dX5_stopTo_7 : decode cX5_stopTo 7 = .ok (.iastore, 1) := by decide +kernel
theorem dX5_stopTo_8 : decode cX5_stopTo 8 = .ok (.iconst 0, 1) := by decide +kernel
theorem dX5_stopTo_9 : decode cX5_stopTo 9 = .ok (.istore_n 2, 1) := by decide +kernel
theorem dX5_stopTo_10 : decode cX5_stopTo 10 = .ok (.iload_n 2, 1) := by decide +kernel
theorem dX5_stopTo_11 : decode cX5_stopTo 11 = .ok (.aload_n 0, 1) := by decide +kernel
theorem dX5_stopTo_12 : decode cX5_stopTo 12 = .ok (.getfield 7, 3) := by decide +kernel
theorem dX5_stopTo_15 : decode cX5_stopTo 15 = .ok (.bipush 15, 2) := by decide +kernel
theorem dX5_stopTo_17 : decode cX5_stopTo 17 = .ok (.iaload, 1) := by decide +kernel
theorem dX5_stopTo_18 : decode cX5_stopTo 18 = .ok (.if_icmp .ge 20, 3) := by decide +kernel
theorem dX5_stopTo_21 : decode cX5_stopTo 21 = .ok (.aload_n 0, 1) := by decide +kernel
theorem dX5_stopTo_22 : decode cX5_stopTo 22 = .ok (.getfield 7, 3) := by decide +kernel
theorem dX5_stopTo_25 : decode cX5_stopTo 25 = .ok (.iload_n 2, 1) := by decide +kernel
theorem dX5_stopTo_26 : decode cX5_stopTo 26 = .ok (.iconst 1, 1) := by decide +kernel
theorem dX5_stopTo_27 : decode cX5_stopTo 27 = .ok (.invokestatic 35, 3) := by decide +kernel
theorem dX5_stopTo_30 : decode cX5_stopTo 30 = .ok (.iconst 0, 1) := by decide +kernel
theorem dX5_stopTo_31 : decode cX5_stopTo 31 = .ok (.iastore, 1) := by decide +kernel
theorem dX5_stopTo_32 : decode cX5_stopTo 32 = .ok (.iinc 2 1, 3) := by decide +kernel
theorem dX5_stopTo_35 : decode cX5_stopTo 35 = .ok (.goto (-25), 3) := by decide +kernel
theorem dX5_stopTo_38 : decode cX5_stopTo 38 = .ok (.return_, 1) := by decide +kernel
set_option maxRecDepth 20000 in
theorem ggX5_sum_X5_at : GoodIn wsX5_sum wsX5_at := goodIn_r _ [5] (by decide +kernel) (by decide +kernel)
set_option maxRecDepth 20000 in
theorem gX5_sum_X5_at : GoodIn wsX5_sum (va_wsS RX5 35 yX5_at wsX5_at) := goodIn_app (goodIn_of _ (by decide +kernel)) ggX5_sum_X5_at
theorem dX5_sum_0 : decode cX5_sum 0 = .ok (.iconst 0, 1) := by decide +kernel
theorem dX5_sum_1 : decode cX5_sum 1 = .ok (.istore_n 2, 1) := by decide +kernel
theorem dX5_sum_2 : decode cX5_sum 2 = .ok (.iconst 0, 1) := by decide +kernel
theorem dX5_sum_3 : decode cX5_sum 3 = .ok (.istore_n 3, 1) := by decide +kernel
theorem dX5_sum_4 : decode cX5_sum 4 = .ok (.iload_n 3, 1) := by decide +kernel
theorem dX5_sum_5 : decode cX5_sum 5 = .ok (.iload_n 1, 1) := by decide +kernel
theorem dX5_sum_6 : decode cX5_sum 6 = .ok (.if_icmp .ge 22, 3) := by decide +kernel
theorem dX5_sum_9 : decode cX5_sum 9 = .ok (.iload_n 2, 1) := by decide +kernel
theorem dX5_sum_10 : decode cX5_sum 10 = .ok (.aload_n 0, 1) := by decide +kernel
theorem dX5_sum_11 : decode cX5_sum 11 = .ok (.getfield 7, 3) := by decide +kernel
theorem dX5_sum_14 : decode cX5_sum 14 = .ok (.iload_n 3, 1) := by decide +kernel
theorem dX5_sum_15 : decode cX5_sum 15 = .ok (.iconst 0, 1) := by decide +kernel
theorem dX5_sum_16 : decode cX5_sum 16 = .ok (.invokestatic 35, 3) := by decide +kernel
theorem dX5_sum_19 : decode cX5_sum 19 = .ok (.iaload, 1) := by decide +kernel
theorem dX5_sum_20 : decode cX5_sum 20 = .ok (.iadd, 1) := by decide +kernel
theorem dX5_sum_21 : decode cX5_sum 21 = .ok (.istore_n 2, 1) := by decide +kernel
theorem dX5_sum_22 : decode cX5_sum 22 = .ok (.iinc 3 1, 3) := by decide +kernel
theorem dX5_sum_25 : decode cX5_sum 25 = .ok (.goto (-21), 3) := by decide +kernel
theorem dX5_sum_28 : decode cX5_sum 28 = .ok (.iload_n 2, 1) := by decide +kernel
theorem dX5_sum_29 : decode cX5_sum 29 = .ok (.ireturn, 1) := by decide +kernel
theorem dX5_aim_0 : decode cX5_aim 0 = .ok (.aload_n 0, 1) := by decide +kernel
theorem dX5_aim_1 : decode cX5_aim 1 = .ok (.getfield 7, 3) := by decide +kernel
theorem dX5_aim_4 : decode cX5_aim 4 = .ok (.bipush 20, 2) := by decide +kernel
theorem dX5_aim_6 : decode cX5_aim 6 = .ok (.iaload, 1) := by decide +kernel
theorem dX5_aim_7 : decode cX5_aim 7 = .ok (.iconst 1, 1) := by decide +kernel
theorem dX5_aim_8 : decode cX5_aim 8 = .ok (.if_icmp .ne 60, 3) := by decide +kernel
theorem dX5_aim_11 : decode cX5_aim 11 = .ok (.aload_n 0, 1) := by decide +kernel
theorem dX5_aim_12 : decode cX5_aim 12 = .ok (.getfield 7, 3) := by decide +kernel
theorem dX5_aim_15 : decode cX5_aim 15 = .ok (.bipush 18, 2) := by decide +kernel
theorem dX5_aim_17 : decode cX5_aim 17 = .ok (.dup2, 1) := by decide +kernel
theorem dX5_aim_18 : decode cX5_aim 18 = .ok (.iaload, 1) := by decide +kernel
theorem dX5_aim_19 : decode cX5_aim 19 = .ok (.aload_n 0, 1) := by decide +kernel
theorem dX5_aim_20 : decode cX5_aim 20 = .ok (.getfield 7, 3) := by decide +kernel
theorem dX5_aim_23 : decode cX5_aim 23 = .ok (.bipush 8, 2) := by decide +kernel
theorem dX5_aim_25 : decode cX5_aim 25 = .ok (.iaload, 1) := by decide +kernel
theorem dX5_aim_26 : decode cX5_aim 26 = .ok (.iadd, 1) := by decide +kernel
theorem dX5_aim_27 : decode cX5_aim 27 = .ok (.iastore, 1) := by decide +kernel
theorem dX5_aim_28 : decode cX5_aim 28 = .ok (.aload_n 0, 1) := by decide +kernel
theorem dX5_aim_29 : decode cX5_aim 29 = .ok (.getfield 7, 3) := by decide +kernel
theorem dX5_aim_32 : decode cX5_aim 32 = .ok (.bipush 18, 2) := by decide +kernel
theorem dX5_aim_34 : decode cX5_aim 34 = .ok (.iaload, 1) := by decide +kernel
theorem dX5_aim_35 : decode cX5_aim 35 = .ok (.aload_n 0, 1) := by decide +kernel
theorem dX5_aim_36 : decode cX5_aim 36 = .ok (.getfield 7, 3) := by decide +kernel
theorem dX5_aim_39 : decode cX5_aim 39 = .ok (.iconst 1, 1) := by decide +kernel
theorem dX5_aim_40 : decode cX5_aim 40 = .ok (.iaload, 1) := by decide +kernel
theorem dX5_aim_41 : decode cX5_aim 41 = .ok (.if_icmp .lt 51, 3) := by decide +kernel
theorem dX5_aim_44 : decode cX5_aim 44 = .ok (.aload_n 0, 1) := by decide +kernel
theorem dX5_aim_45 : decode cX5_aim 45 = .ok (.getfield 7, 3) := by decide +kernel
theorem dX5_aim_48 : decode cX5_aim 48 = .ok (.bipush 18, 2) := by decide +kernel
theorem dX5_aim_50 : decode cX5_aim 50 = .ok (.aload_n 0, 1) := by decide +kernel
theorem dX5_aim_51 : decode cX5_aim 51 = .ok (.getfield 7, 3) := by decide +kernel
theorem dX5_aim_54 : decode cX5_aim 54 = .ok (.iconst 1, 1) := by decide +kernel
theorem dX5_aim_55 : decode cX5_aim 55 = .ok (.iaload, 1) := by decide +kernel
theorem dX5_aim_56 : decode cX5_aim 56 = .ok (.iastore, 1) := by decide +kernel
theorem dX5_aim_57 : decode cX5_aim 57 = .ok (.aload_n 0, 1) := by decide +kernel
theorem dX5_aim_58 : decode cX5_aim 58 = .ok (.getfield 7, 3) := by decide +kernel
theorem dX5_aim_61 : decode cX5_aim 61 = .ok (.bipush 20, 2) := by decide +kernel
theorem dX5_aim_63 : decode cX5_aim 63 = .ok (.iconst 2, 1) := by decide +kernel
theorem dX5_aim_64 : decode cX5_aim 64 = .ok (.iastore, 1) := by decide +kernel
theorem dX5_aim_65 : decode cX5_aim 65 = .ok (.goto 27, 3) := by decide +kernel
theorem dX5_aim_68 : decode cX5_aim 68 = .ok (.aload_n 0, 1) := by decide +kernel
theorem dX5_aim_69 : decode cX5_aim 69 = .ok (.getfield 7, 3) := by decide +kernel
theorem dX5_aim_72 : decode cX5_aim 72 = .ok (.bipush 20, 2) := by decide +kernel
theorem dX5_aim_74 : decode cX5_aim 74 = .ok (.iaload, 1) := by decide +kernel
theorem dX5_aim_75 : decode cX5_aim 75 = .ok (.iconst 2, 1) := by decide +kernel
theorem dX5_aim_76 : decode cX5_aim 76 = .ok (.if_icmp .ne 16, 3) := by decide +kernel
theorem dX5_aim_79 : decode cX5_aim 79 = .ok (.aload_n 0, 1) := by decide +kernel
theorem dX5_aim_80 : decode cX5_aim 80 = .ok (.getfield 7, 3) := by decide +kernel
theorem dX5_aim_83 : decode cX5_aim 83 = .ok (.bipush 18, 2) := by decide +kernel
theorem dX5_aim_85 : decode cX5_aim 85 = .ok (.aload_n 0, 1) := by decide +kernel
theorem dX5_aim_86 : decode cX5_aim 86 = .ok (.getfield 7, 3) := by decide +kernel
theorem dX5_aim_89 : decode cX5_aim 89 = .ok (.iconst 1, 1) := by decide +kernel
theorem dX5_aim_90 : decode cX5_aim 90 = .ok (.iaload, 1) := by decide +kernel
theorem dX5_aim_91 : decode cX5_aim 91 = .ok (.iastore, 1) := by decide +kernel
theorem dX5_aim_92 : decode cX5_aim 92 = .ok (.return_, 1) := by decide +kernel
set_option maxRecDepth 20000 in
theorem ggX5_regulate_X5_clamped : GoodIn wsX5_regulate wsX5_clamped := goodIn_r _ [7] (by decide +kernel) (by decide +kernel)
set_option maxRecDepth 20000 in
theorem gX5_regulate_X5_clamped : GoodIn wsX5_regulate (va_wsS RX5 41 yX5_clamped wsX5_clamped) := goodIn_app (goodIn_of _ (by decide +kernel)) ggX5_regulate_X5_clamped
theorem dX5_regulate_0 : decode cX5_regulate 0 = .ok (.aload_n 0, 1) := by decide +kernel
theorem dX5_regulate_1 : decode cX5_regulate 1 = .ok (.getfield 7, 3) := by decide +kernel
theorem dX5_regulate_4 : decode cX5_regulate 4 = .ok (.bipush 18, 2) := by decide +kernel
theorem dX5_regulate_6 : decode cX5_regulate 6 = .ok (.iaload, 1) := by decide +kernel
theorem dX5_regulate_7 : decode cX5_regulate 7 = .ok (.aload_n 0, 1) := by decide +kernel
theorem dX5_regulate_8 : decode cX5_regulate 8 = .ok (.getfield 7, 3) := by decide +kernel
theorem dX5_regulate_11 : decode cX5_regulate 11 = .ok (.bipush 17, 2) := by decide +kernel
theorem dX5_regulate_13 : decode cX5_regulate 13 = .ok (.iaload, 1) := by decide +kernel
theorem dX5_regulate_14 : decode cX5_regulate 14 = .ok (.isub, 1) := by decide +kernel
theorem dX5_regulate_15 : decode cX5_regulate 15 = .ok (.istore_n 1, 1) := by decide +kernel
theorem dX5_regulate_16 : decode cX5_regulate 16 = .ok (.aload_n 0, 1) := by decide +kernel
theorem dX5_regulate_17 : decode cX5_regulate 17 = .ok (.getfield 7, 3) := by decide +kernel
theorem dX5_regulate_20 : decode cX5_regulate 20 = .ok (.bipush 19, 2) := by decide +kernel
theorem dX5_regulate_22 : decode cX5_regulate 22 = .ok (.aload_n 0, 1) := by decide +kernel
theorem dX5_regulate_23 : decode cX5_regulate 23 = .ok (.getfield 7, 3) := by decide +kernel
theorem dX5_regulate_26 : decode cX5_regulate 26 = .ok (.bipush 19, 2) := by decide +kernel
theorem dX5_regulate_28 : decode cX5_regulate 28 = .ok (.iaload, 1) := by decide +kernel
theorem dX5_regulate_29 : decode cX5_regulate 29 = .ok (.iload_n 1, 1) := by decide +kernel
theorem dX5_regulate_30 : decode cX5_regulate 30 = .ok (.iadd, 1) := by decide +kernel
theorem dX5_regulate_31 : decode cX5_regulate 31 = .ok (.ldc 39, 2) := by decide +kernel
theorem dX5_regulate_33 : decode cX5_regulate 33 = .ok (.ldc 40, 2) := by decide +kernel
theorem dX5_regulate_35 : decode cX5_regulate 35 = .ok (.invokestatic 41, 3) := by decide +kernel
theorem dX5_regulate_38 : decode cX5_regulate 38 = .ok (.iastore, 1) := by decide +kernel
theorem dX5_regulate_39 : decode cX5_regulate 39 = .ok (.aload_n 0, 1) := by decide +kernel
theorem dX5_regulate_40 : decode cX5_regulate 40 = .ok (.getfield 7, 3) := by decide +kernel
theorem dX5_regulate_43 : decode cX5_regulate 43 = .ok (.bipush 21, 2) := by decide +kernel
theorem dX5_regulate_45 : decode cX5_regulate 45 = .ok (.sipush 1000, 3) := by decide +kernel
theorem dX5_regulate_48 : decode cX5_regulate 48 = .ok (.aload_n 0, 1) := by decide +kernel
theorem dX5_regulate_49 : decode cX5_regulate 49 = .ok (.getfield 7, 3) := by decide +kernel
theorem dX5_regulate_52 : decode cX5_regulate 52 = .ok (.bipush 18, 2) := by decide +kernel
theorem dX5_regulate_54 : decode cX5_regulate 54 = .ok (.iaload, 1) := by decide +kernel
theorem dX5_regulate_55 : decode cX5_regulate 55 = .ok (.imul, 1) := by decide +kernel
theorem dX5_regulate_56 : decode cX5_regulate 56 = .ok (.aload_n 0, 1) := by decide +kernel
theorem dX5_regulate_57 : decode cX5_regulate 57 = .ok (.getfield 7, 3) := by decide +kernel
theorem dX5_regulate_60 : decode cX5_regulate 60 = .ok (.iconst 0, 1) := by decide +kernel
theorem dX5_regulate_61 : decode cX5_regulate 61 = .ok (.iaload, 1) := by decide +kernel
theorem dX5_regulate_62 : decode cX5_regulate 62 = .ok (.idiv, 1) := by decide +kernel
theorem dX5_regulate_63 : decode cX5_regulate 63 = .ok (.iload_n 1, 1) := by decide +kernel
theorem dX5_regulate_64 : decode cX5_regulate 64 = .ok (.aload_n 0, 1) := by decide +kernel
theorem dX5_regulate_65 : decode cX5_regulate 65 = .ok (.getfield 7, 3) := by decide +kernel
theorem dX5_regulate_68 : decode cX5_regulate 68 = .ok (.bipush 6, 2) := by decide +kernel
theorem dX5_regulate_70 : decode cX5_regulate 70 = .ok (.iaload, 1) := by decide +kernel
theorem dX5_regulate_71 : decode cX5_regulate 71 = .ok (.imul, 1) := by decide +kernel
theorem dX5_regulate_72 : decode cX5_regulate 72 = .ok (.bipush 100, 2) := by decide +kernel
theorem dX5_regulate_74 : decode cX5_regulate 74 = .ok (.idiv, 1) := by decide +kernel
theorem dX5_regulate_75 : decode cX5_regulate 75 = .ok (.iadd, 1) := by decide +kernel
theorem dX5_regulate_76 : decode cX5_regulate 76 = .ok (.aload_n 0, 1) := by decide +kernel
theorem dX5_regulate_77 : decode cX5_regulate 77 = .ok (.getfield 7, 3) := by decide +kernel
theorem dX5_regulate_80 : decode cX5_regulate 80 = .ok (.bipush 19, 2) := by decide +kernel
theorem dX5_regulate_82 : decode cX5_regulate 82 = .ok (.iaload, 1) := by decide +kernel
theorem dX5_regulate_83 : decode cX5_regulate 83 = .ok (.aload_n 0, 1) := by decide +kernel
theorem dX5_regulate_84 : decode cX5_regulate 84 = .ok (.getfield 7, 3) := by decide +kernel
theorem dX5_regulate_87 : decode cX5_regulate 87 = .ok (.bipush 7, 2) := by decide +kernel
theorem dX5_regulate_89 : decode cX5_regulate 89 = .ok (.iaload, 1) := by decide +kernel
theorem dX5_regulate_90 : decode cX5_regulate 90 = .ok (.imul, 1) := by decide +kernel
theorem dX5_regulate_91 : decode cX5_regulate 91 = .ok (.sipush 10000, 3) := by decide +kernel
theorem dX5_regulate_94 : decode cX5_regulate 94 = .ok (.idiv, 1) := by decide +kernel
theorem dX5_regulate_95 : decode cX5_regulate 95 = .ok (.iadd, 1) := by decide +kernel
theorem dX5_regulate_96 : decode cX5_regulate 96 = .ok (.iconst 0, 1) := by decide +kernel
theorem dX5_regulate_97 : decode cX5_regulate 97 = .ok (.sipush 900, 3) := by decide +kernel
theorem dX5_regulate_100 : decode cX5_regulate 100 = .ok (.invokestatic 41, 3) := by decide +kernel
theorem dX5_regulate_103 : decode cX5_regulate 103 = .ok (.iastore, 1) := by decide +kernel
theorem dX5_regulate_104 : decode cX5_regulate 104 = .ok (.return_, 1) := by decide +kernel
theorem dX5_changePhases_0 : decode cX5_changePhases 0 = .ok (.aload_n 0, 1) := by decide +kernel
theorem dX5_changePhases_1 : decode cX5_changePhases 1 = .ok (.getfield 7, 3) := by decide +kernel
theorem dX5_changePhases_4 : decode cX5_changePhases 4 = .ok (.bipush 16, 2) := by decide +kernel
theorem dX5_changePhases_6 : decode cX5_changePhases 6 = .ok (.iload_n 1, 1) := by decide +kernel
theorem dX5_changePhases_7 : decode cX5_changePhases 7 = .ok (.iastore, 1) := by decide +kernel
theorem dX5_changePhases_8 : decode cX5_changePhases 8 = .ok (.aload_n 0, 1) := by decide +kernel
theorem dX5_changePhases_9 : decode cX5_changePhases 9 = .ok (.getfield 7, 3) := by decide +kernel
theorem dX5_changePhases_12 : decode cX5_changePhases 12 = .ok (.bipush 29, 2) := by decide +kernel
theorem dX5_changePhases_14 : decode cX5_changePhases 14 = .ok (.iconst 0, 1) := by decide +kernel
theorem dX5_changePhases_15 : decode cX5_changePhases 15 = .ok (.iastore, 1) := by decide +kernel
theorem dX5_changePhases_16 : decode cX5_changePhases 16 = .ok (.aload_n 0, 1) := by decide +kernel
theorem dX5_changePhases_17 : decode cX5_changePhases 17 = .ok (.getfield 7, 3) := by decide +kernel
theorem dX5_changePhases_20 : decode cX5_changePhases 20 = .ok (.bipush 30, 2) := by decide +kernel
theorem dX5_changePhases_22 : decode cX5_changePhases 22 = .ok (.iconst 0, 1) := by decide +kernel
theorem dX5_changePhases_23 : decode cX5_changePhases 23 = .ok (.iastore, 1) := by decide +kernel
theorem dX5_changePhases_24 : decode cX5_changePhases 24 = .ok (.aload_n 0, 1) := by decide +kernel
theorem dX5_changePhases_25 : decode cX5_changePhases 25 = .ok (.getfield 7, 3) := by decide +kernel
theorem dX5_changePhases_28 : decode cX5_changePhases 28 = .ok (.bipush 28, 2) := by decide +kernel
theorem dX5_changePhases_30 : decode cX5_changePhases 30 = .ok (.dup2, 1) := by decide +kernel
theorem dX5_changePhases_31 : decode cX5_changePhases 31 = .ok (.iaload, 1) := by decide +kernel
theorem dX5_changePhases_32 : decode cX5_changePhases 32 = .ok (.iconst 1, 1) := by decide +kernel
theorem dX5_changePhases_33 : decode cX5_changePhases 33 = .ok (.iadd, 1) := by decide +kernel
theorem dX5_changePhases_34 : decode cX5_changePhases 34 = .ok (.iastore, 1) := by decide +kernel
theorem dX5_changePhases_35 : decode cX5_changePhases 35 = .ok (.return_, 1) := by decide +kernel
set_option maxRecDepth 20000 in
theorem ggX5_choosePhases_X5_changePhases : GoodIn wsX5_choosePhases wsX5_changePhases := goodIn_r _ [6, 1, 10, 11, 12, 13, 14, 15, 16, 17, 18, 19, 20, 21, 22, 23, 24] (by decide +kernel) (by decide +kernel)
set_option maxRecDepth 20000 in
theorem gX5_choosePhases_X5_changePhases : GoodIn wsX5_choosePhases (wsV RX5 45 RX5 yX5_changePhases wsX5_changePhases) := goodIn_app (goodIn_of _ (by decide +kernel)) ggX5_choosePhases_X5_changePhases
set_option maxRecDepth 20000 in
theorem ggX5_choosePhases_X5_at : GoodIn wsX5_choosePhases wsX5_at := goodIn_r _ [9] (by decide +kernel) (by decide +kernel)
set_option maxRecDepth 20000 in
theorem gX5_choosePhases_X5_at : GoodIn wsX5_choosePhases (va_wsS RX5 35 yX5_at wsX5_at) := goodIn_app (goodIn_of _ (by decide +kernel)) ggX5_choosePhases_X5_at
theorem dX5_choosePhases_0 : decode cX5_choosePhases 0 = .ok (.aload_n 0, 1) := by decide +kernel
theorem dX5_choosePhases_1 : decode cX5_choosePhases 1 = .ok (.getfield 7, 3) := by decide +kernel
theorem dX5_choosePhases_4 : decode cX5_choosePhases 4 = .ok (.bipush 16, 2) := by decide +kernel
theorem dX5_choosePhases_6 : decode cX5_choosePhases 6 = .ok (.iaload, 1) := by decide +kernel
theorem dX5_choosePhases_7 : decode cX5_choosePhases 7 = .ok (.istore_n 1, 1) := by decide +kernel
theorem dX5_choosePhases_8 : decode cX5_choosePhases 8 = .ok (.aload_n 0, 1) := by decide +kernel
theorem dX5_choosePhases_9 : decode cX5_choosePhases 9 = .ok (.getfield 7, 3) := by decide +kernel
theorem dX5_choosePhases_12 : decode cX5_choosePhases 12 = .ok (.bipush 22, 2) := by decide +kernel
theorem dX5_choosePhases_14 : decode cX5_choosePhases 14 = .ok (.iaload, 1) := by decide +kernel
theorem dX5_choosePhases_15 : decode cX5_choosePhases 15 = .ok (.istore_n 2, 1) := by decide +kernel
theorem dX5_choosePhases_16 : decode cX5_choosePhases 16 = .ok (.aload_n 0, 1) := by decide +kernel
theorem dX5_choosePhases_17 : decode cX5_choosePhases 17 = .ok (.getfield 7, 3) := by decide +kernel
theorem dX5_choosePhases_20 : decode cX5_choosePhases 20 = .ok (.bipush 29, 2) := by decide +kernel
theorem dX5_choosePhases_22 : decode cX5_choosePhases 22 = .ok (.iload_n 2, 1) := by decide +kernel
theorem dX5_choosePhases_23 : decode cX5_choosePhases 23 = .ok (.aload_n 0, 1) := by decide +kernel
theorem dX5_choosePhases_24 : decode cX5_choosePhases 24 = .ok (.getfield 7, 3) := by decide +kernel
theorem dX5_choosePhases_27 : decode cX5_choosePhases 27 = .ok (.bipush 10, 2) := by decide +kernel
theorem dX5_choosePhases_29 : decode cX5_choosePhases 29 = .ok (.iaload, 1) := by decide +kernel
theorem dX5_choosePhases_30 : decode cX5_choosePhases 30 = .ok (.iload_n 1, 1) := by decide +kernel
theorem dX5_choosePhases_31 : decode cX5_choosePhases 31 = .ok (.imul, 1) := by decide +kernel
theorem dX5_choosePhases_32 : decode cX5_choosePhases 32 = .ok (.if_icmp .le 26, 3) := by decide +kernel
theorem dX5_choosePhases_35 : decode cX5_choosePhases 35 = .ok (.iload_n 1, 1) := by decide +kernel
theorem dX5_choosePhases_36 : decode cX5_choosePhases 36 = .ok (.aload_n 0, 1) := by decide +kernel
theorem dX5_choosePhases_37 : decode cX5_choosePhases 37 = .ok (.getfield 7, 3) := by decide +kernel
theorem dX5_choosePhases_40 : decode cX5_choosePhases 40 = .ok (.bipush 15, 2) := by decide +kernel
theorem dX5_choosePhases_42 : decode cX5_choosePhases 42 = .ok (.iaload, 1) := by decide +kernel
theorem dX5_choosePhases_43 : decode cX5_choosePhases 43 = .ok (.if_icmp .ge 15, 3) := by decide +kernel
theorem dX5_choosePhases_46 : decode cX5_choosePhases 46 = .ok (.aload_n 0, 1) := by decide +kernel
theorem dX5_choosePhases_47 : decode cX5_choosePhases 47 = .ok (.getfield 7, 3) := by decide +kernel
theorem dX5_choosePhases_50 : decode cX5_choosePhases 50 = .ok (.bipush 29, 2) := by decide +kernel
theorem dX5_choosePhases_52 : decode cX5_choosePhases 52 = .ok (.iaload, 1) := by decide +kernel
theorem dX5_choosePhases_53 : decode cX5_choosePhases 53 = .ok (.iconst 1, 1) := by decide +kernel
theorem dX5_choosePhases_54 : decode cX5_choosePhases 54 = .ok (.iadd, 1) := by decide +kernel
theorem dX5_choosePhases_55 : decode cX5_choosePhases 55 = .ok (.goto 4, 3) := by decide +kernel
theorem dX5_choosePhases_58 : decode cX5_choosePhases 58 = .ok (.iconst 0, 1) := by decide +kernel
theorem dX5_choosePhases_59 : decode cX5_choosePhases 59 = .ok (.iastore, 1) := by decide +kernel
theorem dX5_choosePhases_60 : decode cX5_choosePhases 60 = .ok (.aload_n 0, 1) := by decide +kernel
theorem dX5_choosePhases_61 : decode cX5_choosePhases 61 = .ok (.getfield 7, 3) := by decide +kernel
theorem dX5_choosePhases_64 : decode cX5_choosePhases 64 = .ok (.bipush 29, 2) := by decide +kernel
theorem dX5_choosePhases_66 : decode cX5_choosePhases 66 = .ok (.iaload, 1) := by decide +kernel
theorem dX5_choosePhases_67 : decode cX5_choosePhases 67 = .ok (.iconst 3, 1) := by decide +kernel
theorem dX5_choosePhases_68 : decode cX5_choosePhases 68 = .ok (.if_icmp .ne 11, 3) := by decide +kernel
theorem dX5_choosePhases_71 : decode cX5_choosePhases 71 = .ok (.aload_n 0, 1) := by decide +kernel
theorem dX5_choosePhases_72 : decode cX5_choosePhases 72 = .ok (.iload_n 1, 1) := by decide +kernel
theorem dX5_choosePhases_73 : decode cX5_choosePhases 73 = .ok (.iconst 1, 1) := by decide +kernel
theorem dX5_choosePhases_74 : decode cX5_choosePhases 74 = .ok (.iadd, 1) := by decide +kernel
theorem dX5_choosePhases_75 : decode cX5_choosePhases 75 = .ok (.invokevirtual 45, 3) := by decide +kernel
theorem dX5_choosePhases_78 : decode cX5_choosePhases 78 = .ok (.return_, 1) := by decide +kernel
theorem dX5_choosePhases_79 : decode cX5_choosePhases 79 = .ok (.aload_n 0, 1) := by decide +kernel
theorem dX5_choosePhases_80 : decode cX5_choosePhases 80 = .ok (.getfield 7, 3) := by decide +kernel
theorem dX5_choosePhases_83 : decode cX5_choosePhases 83 = .ok (.bipush 30, 2) := by decide +kernel
theorem dX5_choosePhases_85 : decode cX5_choosePhases 85 = .ok (.iload_n 1, 1) := by decide +kernel
theorem dX5_choosePhases_86 : decode cX5_choosePhases 86 = .ok (.iconst 1, 1) := by decide +kernel
theorem dX5_choosePhases_87 : decode cX5_choosePhases 87 = .ok (.if_icmp .le 30, 3) := by decide +kernel
theorem dX5_choosePhases_90 : decode cX5_choosePhases 90 = .ok (.iload_n 2, 1) := by decide +kernel
theorem dX5_choosePhases_91 : decode cX5_choosePhases 91 = .ok (.aload_n 0, 1) := by decide +kernel
theorem dX5_choosePhases_92 : decode cX5_choosePhases 92 = .ok (.getfield 7, 3) := by decide +kernel
theorem dX5_choosePhases_95 : decode cX5_choosePhases 95 = .ok (.bipush 11, 2) := by decide +kernel
theorem dX5_choosePhases_97 : decode cX5_choosePhases 97 = .ok (.iaload, 1) := by decide +kernel
theorem dX5_choosePhases_98 : decode cX5_choosePhases 98 = .ok (.iload_n 1, 1) := by decide +kernel
theorem dX5_choosePhases_99 : decode cX5_choosePhases 99 = .ok (.iconst 1, 1) := by decide +kernel
theorem dX5_choosePhases_100 : decode cX5_choosePhases 100 = .ok (.isub, 1) := by decide +kernel
theorem dX5_choosePhases_101 : decode cX5_choosePhases 101 = .ok (.imul, 1) := by decide +kernel
theorem dX5_choosePhases_102 : decode cX5_choosePhases 102 = .ok (.if_icmp .ge 15, 3) := by decide +kernel
theorem dX5_choosePhases_105 : decode cX5_choosePhases 105 = .ok (.aload_n 0, 1) := by decide +kernel
theorem dX5_choosePhases_106 : decode cX5_choosePhases 106 = .ok (.getfield 7, 3) := by decide +kernel
theorem dX5_choosePhases_109 : decode cX5_choosePhases 109 = .ok (.bipush 30, 2) := by decide +kernel
theorem dX5_choosePhases_111 : decode cX5_choosePhases 111 = .ok (.iaload, 1) := by decide +kernel
theorem dX5_choosePhases_112 : decode cX5_choosePhases 112 = .ok (.iconst 1, 1) := by decide +kernel
theorem dX5_choosePhases_113 : decode cX5_choosePhases 113 = .ok (.iadd, 1) := by decide +kernel
theorem dX5_choosePhases_114 : decode cX5_choosePhases 114 = .ok (.goto 4, 3) := by decide +kernel
theorem dX5_choosePhases_117 : decode cX5_choosePhases 117 = .ok (.iconst 0, 1) := by decide +kernel
theorem dX5_choosePhases_118 : decode cX5_choosePhases 118 = .ok (.iastore, 1) := by decide +kernel
theorem dX5_choosePhases_119 : decode cX5_choosePhases 119 = .ok (.aload_n 0, 1) := by decide +kernel
theorem dX5_choosePhases_120 : decode cX5_choosePhases 120 = .ok (.getfield 7, 3) := by decide +kernel
theorem dX5_choosePhases_123 : decode cX5_choosePhases 123 = .ok (.bipush 30, 2) := by decide +kernel
theorem dX5_choosePhases_125 : decode cX5_choosePhases 125 = .ok (.iaload, 1) := by decide +kernel
theorem dX5_choosePhases_126 : decode cX5_choosePhases 126 = .ok (.iconst 5, 1) := by decide +kernel
theorem dX5_choosePhases_127 : decode cX5_choosePhases 127 = .ok (.if_icmp .ne 23, 3) := by decide +kernel
theorem dX5_choosePhases_130 : decode cX5_choosePhases 130 = .ok (.aload_n 0, 1) := by decide +kernel
theorem dX5_choosePhases_131 : decode cX5_choosePhases 131 = .ok (.iload_n 1, 1) := by decide +kernel
theorem dX5_choosePhases_132 : decode cX5_choosePhases 132 = .ok (.iconst 1, 1) := by decide +kernel
theorem dX5_choosePhases_133 : decode cX5_choosePhases 133 = .ok (.isub, 1) := by decide +kernel
theorem dX5_choosePhases_134 : decode cX5_choosePhases 134 = .ok (.invokevirtual 45, 3) := by decide +kernel
theorem dX5_choosePhases_137 : decode cX5_choosePhases 137 = .ok (.aload_n 0, 1) := by decide +kernel
theorem dX5_choosePhases_138 : decode cX5_choosePhases 138 = .ok (.getfield 7, 3) := by decide +kernel
theorem dX5_choosePhases_141 : decode cX5_choosePhases 141 = .ok (.iload_n 1, 1) := by decide +kernel
theorem dX5_choosePhases_142 : decode cX5_choosePhases 142 = .ok (.iconst 1, 1) := by decide +kernel
theorem dX5_choosePhases_143 : decode cX5_choosePhases 143 = .ok (.isub, 1) := by decide +kernel
theorem dX5_choosePhases_144 : decode cX5_choosePhases 144 = .ok (.iconst 1, 1) := by decide +kernel
theorem dX5_choosePhases_145 : decode cX5_choosePhases 145 = .ok (.invokestatic 35, 3) := by decide +kernel
theorem dX5_choosePhases_148 : decode cX5_choosePhases 148 = .ok (.iconst 0, 1) := by decide +kernel
theorem dX5_choosePhases_149 : decode cX5_choosePhases 149 = .ok (.iastore, 1) := by decide +kernel
theorem dX5_choosePhases_150 : decode cX5_choosePhases 150 = .ok (.return_, 1) := by decide +kernel
set_option maxRecDepth 20000 in
theorem ggX5_beginPulse_X5_at : GoodIn wsX5_beginPulse wsX5_at := goodIn_r _ [5] (by decide +kernel) (by decide +kernel)
set_option maxRecDepth 20000 in
theorem gX5_beginPulse_X5_at : GoodIn wsX5_beginPulse (va_wsS RX5 35 yX5_at wsX5_at) := goodIn_app (goodIn_of _ (by decide +kernel)) ggX5_beginPulse_X5_at
set_option maxRecDepth 20000 in
theorem ggX5_beginPulse_X5_sum : GoodIn wsX5_beginPulse wsX5_sum := goodIn_r _ [9, 1, 2, 3, 4, 5, 13, 14, 15, 16, 17, 18, 19, 20, 21, 22, 23, 24, 25, 26, 27] (by decide +kernel) (by decide +kernel)
set_option maxRecDepth 20000 in
theorem gX5_beginPulse_X5_sum : GoodIn wsX5_beginPulse (wsV RX5 48 RX5 yX5_sum wsX5_sum) := goodIn_app (goodIn_of _ (by decide +kernel)) ggX5_beginPulse_X5_sum
set_option maxRecDepth 20000 in
theorem ggX5_beginPulse_X5_clamped : GoodIn wsX5_beginPulse wsX5_clamped := goodIn_r _ [12] (by decide +kernel) (by decide +kernel)
set_option maxRecDepth 20000 in
theorem gX5_beginPulse_X5_clamped : GoodIn wsX5_beginPulse (va_wsS RX5 41 yX5_clamped wsX5_clamped) := goodIn_app (goodIn_of _ (by decide +kernel)) ggX5_beginPulse_X5_clamped
theorem dX5_beginPulse_0 : decode cX5_beginPulse 0 = .ok (.aload_n 0, 1) := by decide +kernel
theorem dX5_beginPulse_1 : decode cX5_beginPulse 1 = .ok (.getfield 7, 3) := by decide +kernel
theorem dX5_beginPulse_4 : decode cX5_beginPulse 4 = .ok (.bipush 17, 2) := by decide +kernel
theorem dX5_beginPulse_6 : decode cX5_beginPulse 6 = .ok (.iaload, 1) := by decide +kernel
theorem dX5_beginPulse_7 : decode cX5_beginPulse 7 = .ok (.aload_n 0, 1) := by decide +kernel
theorem dX5_beginPulse_8 : decode cX5_beginPulse 8 = .ok (.getfield 7, 3) := by decide +kernel
theorem dX5_beginPulse_11 : decode cX5_beginPulse 11 = .ok (.bipush 18, 2) := by decide +kernel
theorem dX5_beginPulse_13 : decode cX5_beginPulse 13 = .ok (.iaload, 1) := by decide +kernel
theorem dX5_beginPulse_14 : decode cX5_beginPulse 14 = .ok (.if_icmp .lt 62, 3) := by decide +kernel
theorem dX5_beginPulse_17 : decode cX5_beginPulse 17 = .ok (.aload_n 0, 1) := by decide +kernel
theorem dX5_beginPulse_18 : decode cX5_beginPulse 18 = .ok (.getfield 7, 3) := by decide +kernel
theorem dX5_beginPulse_21 : decode cX5_beginPulse 21 = .ok (.bipush 20, 2) := by decide +kernel
theorem dX5_beginPulse_23 : decode cX5_beginPulse 23 = .ok (.iaload, 1) := by decide +kernel
theorem dX5_beginPulse_24 : decode cX5_beginPulse 24 = .ok (.iconst 1, 1) := by decide +kernel
theorem dX5_beginPulse_25 : decode cX5_beginPulse 25 = .ok (.if_icmp .eq 14, 3) := by decide +kernel
theorem dX5_beginPulse_28 : decode cX5_beginPulse 28 = .ok (.iload_n 2, 1) := by decide +kernel
theorem dX5_beginPulse_29 : decode cX5_beginPulse 29 = .ok (.aload_n 0, 1) := by decide +kernel
theorem dX5_beginPulse_30 : decode cX5_beginPulse 30 = .ok (.getfield 7, 3) := by decide +kernel
theorem dX5_beginPulse_33 : decode cX5_beginPulse 33 = .ok (.bipush 9, 2) := by decide +kernel
theorem dX5_beginPulse_35 : decode cX5_beginPulse 35 = .ok (.iaload, 1) := by decide +kernel
theorem dX5_beginPulse_36 : decode cX5_beginPulse 36 = .ok (.if_icmp .ge 40, 3) := by decide +kernel
theorem dX5_beginPulse_39 : decode cX5_beginPulse 39 = .ok (.aload_n 0, 1) := by decide +kernel
theorem dX5_beginPulse_40 : decode cX5_beginPulse 40 = .ok (.getfield 7, 3) := by decide +kernel
theorem dX5_beginPulse_43 : decode cX5_beginPulse 43 = .ok (.iload_n 1, 1) := by decide +kernel
theorem dX5_beginPulse_44 : decode cX5_beginPulse 44 = .ok (.iconst 1, 1) := by decide +kernel
theorem dX5_beginPulse_45 : decode cX5_beginPulse 45 = .ok (.invokestatic 35, 3) := by decide +kernel
theorem dX5_beginPulse_48 : decode cX5_beginPulse 48 = .ok (.iconst 0, 1) := by decide +kernel
theorem dX5_beginPulse_49 : decode cX5_beginPulse 49 = .ok (.iastore, 1) := by decide +kernel
theorem dX5_beginPulse_50 : decode cX5_beginPulse 50 = .ok (.aload_n 0, 1) := by decide +kernel
theorem dX5_beginPulse_51 : decode cX5_beginPulse 51 = .ok (.getfield 7, 3) := by decide +kernel
theorem dX5_beginPulse_54 : decode cX5_beginPulse 54 = .ok (.iload_n 1, 1) := by decide +kernel
theorem dX5_beginPulse_55 : decode cX5_beginPulse 55 = .ok (.iconst 5, 1) := by decide +kernel
theorem dX5_beginPulse_56 : decode cX5_beginPulse 56 = .ok (.invokestatic 35, 3) := by decide +kernel
theorem dX5_beginPulse_59 : decode cX5_beginPulse 59 = .ok (.dup2, 1) := by decide +kernel
theorem dX5_beginPulse_60 : decode cX5_beginPulse 60 = .ok (.iaload, 1) := by decide +kernel
theorem dX5_beginPulse_61 : decode cX5_beginPulse 61 = .ok (.iconst 1, 1) := by decide +kernel
theorem dX5_beginPulse_62 : decode cX5_beginPulse 62 = .ok (.iadd, 1) := by decide +kernel
theorem dX5_beginPulse_63 : decode cX5_beginPulse 63 = .ok (.iastore, 1) := by decide +kernel
theorem dX5_beginPulse_64 : decode cX5_beginPulse 64 = .ok (.aload_n 0, 1) := by decide +kernel
theorem dX5_beginPulse_65 : decode cX5_beginPulse 65 = .ok (.getfield 7, 3) := by decide +kernel
theorem dX5_beginPulse_68 : decode cX5_beginPulse 68 = .ok (.bipush 26, 2) := by decide +kernel
theorem dX5_beginPulse_70 : decode cX5_beginPulse 70 = .ok (.dup2, 1) := by decide +kernel
theorem dX5_beginPulse_71 : decode cX5_beginPulse 71 = .ok (.iaload, 1) := by decide +kernel
theorem dX5_beginPulse_72 : decode cX5_beginPulse 72 = .ok (.iconst 1, 1) := by decide +kernel
theorem dX5_beginPulse_73 : decode cX5_beginPulse 73 = .ok (.iadd, 1) := by decide +kernel
theorem dX5_beginPulse_74 : decode cX5_beginPulse 74 = .ok (.iastore, 1) := by decide +kernel
theorem dX5_beginPulse_75 : decode cX5_beginPulse 75 = .ok (.return_, 1) := by decide +kernel
theorem dX5_beginPulse_76 : decode cX5_beginPulse 76 = .ok (.aload_n 0, 1) := by decide +kernel
theorem dX5_beginPulse_77 : decode cX5_beginPulse 77 = .ok (.getfield 7, 3) := by decide +kernel
theorem dX5_beginPulse_80 : decode cX5_beginPulse 80 = .ok (.iload_n 1, 1) := by decide +kernel
theorem dX5_beginPulse_81 : decode cX5_beginPulse 81 = .ok (.iconst 0, 1) := by decide +kernel
theorem dX5_beginPulse_82 : decode cX5_beginPulse 82 = .ok (.invokestatic 35, 3) := by decide +kernel
theorem dX5_beginPulse_85 : decode cX5_beginPulse 85 = .ok (.iaload, 1) := by decide +kernel
theorem dX5_beginPulse_86 : decode cX5_beginPulse 86 = .ok (.aload_n 0, 1) := by decide +kernel
theorem dX5_beginPulse_87 : decode cX5_beginPulse 87 = .ok (.aload_n 0, 1) := by decide +kernel
theorem dX5_beginPulse_88 : decode cX5_beginPulse 88 = .ok (.getfield 7, 3) := by decide +kernel
theorem dX5_beginPulse_91 : decode cX5_beginPulse 91 = .ok (.bipush 16, 2) := by decide +kernel
theorem dX5_beginPulse_93 : decode cX5_beginPulse 93 = .ok (.iaload, 1) := by decide +kernel
theorem dX5_beginPulse_94 : decode cX5_beginPulse 94 = .ok (.invokevirtual 48, 3) := by decide +kernel
theorem dX5_beginPulse_97 : decode cX5_beginPulse 97 = .ok (.aload_n 0, 1) := by decide +kernel
theorem dX5_beginPulse_98 : decode cX5_beginPulse 98 = .ok (.getfield 7, 3) := by decide +kernel
theorem dX5_beginPulse_101 : decode cX5_beginPulse 101 = .ok (.bipush 16, 2) := by decide +kernel
theorem dX5_beginPulse_103 : decode cX5_beginPulse 103 = .ok (.iaload, 1) := by decide +kernel
theorem dX5_beginPulse_104 : decode cX5_beginPulse 104 = .ok (.idiv, 1) := by decide +kernel
theorem dX5_beginPulse_105 : decode cX5_beginPulse 105 = .ok (.isub, 1) := by decide +kernel
theorem dX5_beginPulse_106 : decode cX5_beginPulse 106 = .ok (.istore_n 3, 1) := by decide +kernel
theorem dX5_beginPulse_107 : decode cX5_beginPulse 107 = .ok (.aload_n 0, 1) := by decide +kernel
theorem dX5_beginPulse_108 : decode cX5_beginPulse 108 = .ok (.getfield 7, 3) := by decide +kernel
theorem dX5_beginPulse_111 : decode cX5_beginPulse 111 = .ok (.bipush 21, 2) := by decide +kernel
theorem dX5_beginPulse_113 : decode cX5_beginPulse 113 = .ok (.iaload, 1) := by decide +kernel
theorem dX5_beginPulse_114 : decode cX5_beginPulse 114 = .ok (.iload_n 3, 1) := by decide +kernel
theorem dX5_beginPulse_115 : decode cX5_beginPulse 115 = .ok (.aload_n 0, 1) := by decide +kernel
theorem dX5_beginPulse_116 : decode cX5_beginPulse 116 = .ok (.getfield 7, 3) := by decide +kernel
theorem dX5_beginPulse_119 : decode cX5_beginPulse 119 = .ok (.bipush 14, 2) := by decide +kernel
theorem dX5_beginPulse_121 : decode cX5_beginPulse 121 = .ok (.iaload, 1) := by decide +kernel
theorem dX5_beginPulse_122 : decode cX5_beginPulse 122 = .ok (.imul, 1) := by decide +kernel
theorem dX5_beginPulse_123 : decode cX5_beginPulse 123 = .ok (.sipush 1000, 3) := by decide +kernel
theorem dX5_beginPulse_126 : decode cX5_beginPulse 126 = .ok (.idiv, 1) := by decide +kernel
theorem dX5_beginPulse_127 : decode cX5_beginPulse 127 = .ok (.isub, 1) := by decide +kernel
theorem dX5_beginPulse_128 : decode cX5_beginPulse 128 = .ok (.iconst 0, 1) := by decide +kernel
theorem dX5_beginPulse_129 : decode cX5_beginPulse 129 = .ok (.sipush 900, 3) := by decide +kernel
theorem dX5_beginPulse_132 : decode cX5_beginPulse 132 = .ok (.invokestatic 41, 3) := by decide +kernel
theorem dX5_beginPulse_135 : decode cX5_beginPulse 135 = .ok (.istore 4, 2) := by decide +kernel
theorem dX5_beginPulse_137 : decode cX5_beginPulse 137 = .ok (.aload_n 0, 1) := by decide +kernel
theorem dX5_beginPulse_138 : decode cX5_beginPulse 138 = .ok (.getfield 7, 3) := by decide +kernel
theorem dX5_beginPulse_141 : decode cX5_beginPulse 141 = .ok (.iload_n 1, 1) := by decide +kernel
theorem dX5_beginPulse_142 : decode cX5_beginPulse 142 = .ok (.iconst 2, 1) := by decide +kernel
theorem dX5_beginPulse_143 : decode cX5_beginPulse 143 = .ok (.invokestatic 35, 3) := by decide +kernel
theorem dX5_beginPulse_146 : decode cX5_beginPulse 146 = .ok (.iaload, 1) := by decide +kernel
theorem dX5_beginPulse_147 : decode cX5_beginPulse 147 = .ok (.bipush 20, 2) := by decide +kernel
theorem dX5_beginPulse_149 : decode cX5_beginPulse 149 = .ok (.iload 4, 2) := by decide +kernel
theorem dX5_beginPulse_151 : decode cX5_beginPulse 151 = .ok (.imul, 1) := by decide +kernel
theorem dX5_beginPulse_152 : decode cX5_beginPulse 152 = .ok (.iadd, 1) := by decide +kernel
theorem dX5_beginPulse_153 : decode cX5_beginPulse 153 = .ok (.istore 5, 2) := by decide +kernel
theorem dX5_beginPulse_155 : decode cX5_beginPulse 155 = .ok (.aload_n 0, 1) := by decide +kernel
theorem dX5_beginPulse_156 : decode cX5_beginPulse 156 = .ok (.getfield 7, 3) := by decide +kernel
theorem dX5_beginPulse_159 : decode cX5_beginPulse 159 = .ok (.iload_n 1, 1) := by decide +kernel
theorem dX5_beginPulse_160 : decode cX5_beginPulse 160 = .ok (.iconst 1, 1) := by decide +kernel
theorem dX5_beginPulse_161 : decode cX5_beginPulse 161 = .ok (.invokestatic 35, 3) := by decide +kernel
theorem dX5_beginPulse_164 : decode cX5_beginPulse 164 = .ok (.iload 5, 2) := by decide +kernel
theorem dX5_beginPulse_166 : decode cX5_beginPulse 166 = .ok (.sipush 1000, 3) := by decide +kernel
theorem dX5_beginPulse_169 : decode cX5_beginPulse 169 = .ok (.idiv, 1) := by decide +kernel
theorem dX5_beginPulse_170 : decode cX5_beginPulse 170 = .ok (.iastore, 1) := by decide +kernel
theorem dX5_beginPulse_171 : decode cX5_beginPulse 171 = .ok (.aload_n 0, 1) := by decide +kernel
theorem dX5_beginPulse_172 : decode cX5_beginPulse 172 = .ok (.getfield 7, 3) := by decide +kernel
theorem dX5_beginPulse_175 : decode cX5_beginPulse 175 = .ok (.iload_n 1, 1) := by decide +kernel
theorem dX5_beginPulse_176 : decode cX5_beginPulse 176 = .ok (.iconst 2, 1) := by decide +kernel
theorem dX5_beginPulse_177 : decode cX5_beginPulse 177 = .ok (.invokestatic 35, 3) := by decide +kernel
theorem dX5_beginPulse_180 : decode cX5_beginPulse 180 = .ok (.iload 5, 2) := by decide +kernel
theorem dX5_beginPulse_182 : decode cX5_beginPulse 182 = .ok (.sipush 1000, 3) := by decide +kernel
theorem dX5_beginPulse_185 : decode cX5_beginPulse 185 = .ok (.irem, 1) := by decide +kernel
theorem dX5_beginPulse_186 : decode cX5_beginPulse 186 = .ok (.iastore, 1) := by decide +kernel
theorem dX5_beginPulse_187 : decode cX5_beginPulse 187 = .ok (.aload_n 0, 1) := by decide +kernel
theorem dX5_beginPulse_188 : decode cX5_beginPulse 188 = .ok (.getfield 7, 3) := by decide +kernel
theorem dX5_beginPulse_191 : decode cX5_beginPulse 191 = .ok (.iload_n 1, 1) := by decide +kernel
theorem dX5_beginPulse_192 : decode cX5_beginPulse 192 = .ok (.bipush 6, 2) := by decide +kernel
theorem dX5_beginPulse_194 : decode cX5_beginPulse 194 = .ok (.invokestatic 35, 3) := by decide +kernel
theorem dX5_beginPulse_197 : decode cX5_beginPulse 197 = .ok (.dup2, 1) := by decide +kernel
theorem dX5_beginPulse_198 : decode cX5_beginPulse 198 = .ok (.iaload, 1) := by decide +kernel
theorem dX5_beginPulse_199 : decode cX5_beginPulse 199 = .ok (.iconst 1, 1) := by decide +kernel
theorem dX5_beginPulse_200 : decode cX5_beginPulse 200 = .ok (.iadd, 1) := by decide +kernel
theorem dX5_beginPulse_201 : decode cX5_beginPulse 201 = .ok (.iastore, 1) := by decide +kernel
theorem dX5_beginPulse_202 : decode cX5_beginPulse 202 = .ok (.return_, 1) := by decide +kernel
set_option maxRecDepth 20000 in
theorem ggX5_step_X5_at : GoodIn wsX5_step wsX5_at := goodIn_r _ [5] (by decide +kernel) (by decide +kernel)
set_option maxRecDepth 20000 in
theorem gX5_step_X5_at : GoodIn wsX5_step (va_wsS RX5 35 yX5_at wsX5_at) := goodIn_app (goodIn_of _ (by decide +kernel)) ggX5_step_X5_at
theorem dX5_step_0 : decode cX5_step 0 = .ok (.aload_n 0, 1) := by decide +kernel
theorem dX5_step_1 : decode cX5_step 1 = .ok (.getfield 7, 3) := by decide +kernel
theorem dX5_step_4 : decode cX5_step 4 = .ok (.iload_n 1, 1) := by decide +kernel
theorem dX5_step_5 : decode cX5_step 5 = .ok (.iconst 1, 1) := by decide +kernel
theorem dX5_step_6 : decode cX5_step 6 = .ok (.invokestatic 35, 3) := by decide +kernel
theorem dX5_step_9 : decode cX5_step 9 = .ok (.iaload, 1) := by decide +kernel
theorem dX5_step_10 : decode cX5_step 10 = .ok (.ifCond .le 58, 3) := by decide +kernel
theorem dX5_step_13 : decode cX5_step 13 = .ok (.aload_n 0, 1) := by decide +kernel
theorem dX5_step_14 : decode cX5_step 14 = .ok (.getfield 7, 3) := by decide +kernel
theorem dX5_step_17 : decode cX5_step 17 = .ok (.iload_n 1, 1) := by decide +kernel
theorem dX5_step_18 : decode cX5_step 18 = .ok (.iconst 0, 1) := by decide +kernel
theorem dX5_step_19 : decode cX5_step 19 = .ok (.invokestatic 35, 3) := by decide +kernel
theorem dX5_step_22 : decode cX5_step 22 = .ok (.iaload, 1) := by decide +kernel
theorem dX5_step_23 : decode cX5_step 23 = .ok (.aload_n 0, 1) := by decide +kernel
theorem dX5_step_24 : decode cX5_step 24 = .ok (.getfield 7, 3) := by decide +kernel
theorem dX5_step_27 : decode cX5_step 27 = .ok (.iconst 5, 1) := by decide +kernel
theorem dX5_step_28 : decode cX5_step 28 = .ok (.iaload, 1) := by decide +kernel
theorem dX5_step_29 : decode cX5_step 29 = .ok (.if_icmp .lt 39, 3) := by decide +kernel
theorem dX5_step_32 : decode cX5_step 32 = .ok (.aload_n 0, 1) := by decide +kernel
theorem dX5_step_33 : decode cX5_step 33 = .ok (.getfield 7, 3) := by decide +kernel
theorem dX5_step_36 : decode cX5_step 36 = .ok (.iload_n 1, 1) := by decide +kernel
theorem dX5_step_37 : decode cX5_step 37 = .ok (.iconst 1, 1) := by decide +kernel
theorem dX5_step_38 : decode cX5_step 38 = .ok (.invokestatic 35, 3) := by decide +kernel
theorem dX5_step_41 : decode cX5_step 41 = .ok (.iconst 0, 1) := by decide +kernel
theorem dX5_step_42 : decode cX5_step 42 = .ok (.iastore, 1) := by decide +kernel
theorem dX5_step_43 : decode cX5_step 43 = .ok (.aload_n 0, 1) := by decide +kernel
theorem dX5_step_44 : decode cX5_step 44 = .ok (.getfield 7, 3) := by decide +kernel
theorem dX5_step_47 : decode cX5_step 47 = .ok (.iload_n 1, 1) := by decide +kernel
theorem dX5_step_48 : decode cX5_step 48 = .ok (.iconst 4, 1) := by decide +kernel
theorem dX5_step_49 : decode cX5_step 49 = .ok (.invokestatic 35, 3) := by decide +kernel
theorem dX5_step_52 : decode cX5_step 52 = .ok (.dup2, 1) := by decide +kernel
theorem dX5_step_53 : decode cX5_step 53 = .ok (.iaload, 1) := by decide +kernel
theorem dX5_step_54 : decode cX5_step 54 = .ok (.iconst 1, 1) := by decide +kernel
theorem dX5_step_55 : decode cX5_step 55 = .ok (.iadd, 1) := by decide +kernel
theorem dX5_step_56 : decode cX5_step 56 = .ok (.iastore, 1) := by decide +kernel
theorem dX5_step_57 : decode cX5_step 57 = .ok (.aload_n 0, 1) := by decide +kernel
theorem dX5_step_58 : decode cX5_step 58 = .ok (.getfield 7, 3) := by decide +kernel
theorem dX5_step_61 : decode cX5_step 61 = .ok (.bipush 25, 2) := by decide +kernel
theorem dX5_step_63 : decode cX5_step 63 = .ok (.dup2, 1) := by decide +kernel
theorem dX5_step_64 : decode cX5_step 64 = .ok (.iaload, 1) := by decide +kernel
theorem dX5_step_65 : decode cX5_step 65 = .ok (.iconst 1, 1) := by decide +kernel
theorem dX5_step_66 : decode cX5_step 66 = .ok (.iadd, 1) := by decide +kernel
theorem dX5_step_67 : decode cX5_step 67 = .ok (.iastore, 1) := by decide +kernel
theorem dX5_step_68 : decode cX5_step 68 = .ok (.aload_n 0, 1) := by decide +kernel
theorem dX5_step_69 : decode cX5_step 69 = .ok (.getfield 7, 3) := by decide +kernel
theorem dX5_step_72 : decode cX5_step 72 = .ok (.iload_n 1, 1) := by decide +kernel
theorem dX5_step_73 : decode cX5_step 73 = .ok (.iconst 1, 1) := by decide +kernel
theorem dX5_step_74 : decode cX5_step 74 = .ok (.invokestatic 35, 3) := by decide +kernel
theorem dX5_step_77 : decode cX5_step 77 = .ok (.iaload, 1) := by decide +kernel
theorem dX5_step_78 : decode cX5_step 78 = .ok (.ifCond .le 68, 3) := by decide +kernel
theorem dX5_step_81 : decode cX5_step 81 = .ok (.aload_n 0, 1) := by decide +kernel
theorem dX5_step_82 : decode cX5_step 82 = .ok (.getfield 7, 3) := by decide +kernel
theorem dX5_step_85 : decode cX5_step 85 = .ok (.iload_n 1, 1) := by decide +kernel
theorem dX5_step_86 : decode cX5_step 86 = .ok (.iconst 1, 1) := by decide +kernel
theorem dX5_step_87 : decode cX5_step 87 = .ok (.invokestatic 35, 3) := by decide +kernel
theorem dX5_step_90 : decode cX5_step 90 = .ok (.dup2, 1) := by decide +kernel
theorem dX5_step_91 : decode cX5_step 91 = .ok (.iaload, 1) := by decide +kernel
theorem dX5_step_92 : decode cX5_step 92 = .ok (.iconst 1, 1) := by decide +kernel
theorem dX5_step_93 : decode cX5_step 93 = .ok (.isub, 1) := by decide +kernel
theorem dX5_step_94 : decode cX5_step 94 = .ok (.iastore, 1) := by decide +kernel
theorem dX5_step_95 : decode cX5_step 95 = .ok (.aload_n 0, 1) := by decide +kernel
theorem dX5_step_96 : decode cX5_step 96 = .ok (.getfield 7, 3) := by decide +kernel
theorem dX5_step_99 : decode cX5_step 99 = .ok (.iload_n 1, 1) := by decide +kernel
theorem dX5_step_100 : decode cX5_step 100 = .ok (.iconst 3, 1) := by decide +kernel
theorem dX5_step_101 : decode cX5_step 101 = .ok (.invokestatic 35, 3) := by decide +kernel
theorem dX5_step_104 : decode cX5_step 104 = .ok (.dup2, 1) := by decide +kernel
theorem dX5_step_105 : decode cX5_step 105 = .ok (.iaload, 1) := by decide +kernel
theorem dX5_step_106 : decode cX5_step 106 = .ok (.iconst 1, 1) := by decide +kernel
theorem dX5_step_107 : decode cX5_step 107 = .ok (.iadd, 1) := by decide +kernel
theorem dX5_step_108 : decode cX5_step 108 = .ok (.iastore, 1) := by decide +kernel
theorem dX5_step_109 : decode cX5_step 109 = .ok (.aload_n 0, 1) := by decide +kernel
theorem dX5_step_110 : decode cX5_step 110 = .ok (.getfield 7, 3) := by decide +kernel
theorem dX5_step_113 : decode cX5_step 113 = .ok (.iload_n 1, 1) := by decide +kernel
theorem dX5_step_114 : decode cX5_step 114 = .ok (.iconst 0, 1) := by decide +kernel
theorem dX5_step_115 : decode cX5_step 115 = .ok (.invokestatic 35, 3) := by decide +kernel
theorem dX5_step_118 : decode cX5_step 118 = .ok (.dup2, 1) := by decide +kernel
theorem dX5_step_119 : decode cX5_step 119 = .ok (.iaload, 1) := by decide +kernel
theorem dX5_step_120 : decode cX5_step 120 = .ok (.aload_n 0, 1) := by decide +kernel
theorem dX5_step_121 : decode cX5_step 121 = .ok (.getfield 7, 3) := by decide +kernel
theorem dX5_step_124 : decode cX5_step 124 = .ok (.iconst 0, 1) := by decide +kernel
theorem dX5_step_125 : decode cX5_step 125 = .ok (.iaload, 1) := by decide +kernel
theorem dX5_step_126 : decode cX5_step 126 = .ok (.aload_n 0, 1) := by decide +kernel
theorem dX5_step_127 : decode cX5_step 127 = .ok (.getfield 7, 3) := by decide +kernel
theorem dX5_step_130 : decode cX5_step 130 = .ok (.bipush 17, 2) := by decide +kernel
theorem dX5_step_132 : decode cX5_step 132 = .ok (.iaload, 1) := by decide +kernel
theorem dX5_step_133 : decode cX5_step 133 = .ok (.isub, 1) := by decide +kernel
theorem dX5_step_134 : decode cX5_step 134 = .ok (.aload_n 0, 1) := by decide +kernel
theorem dX5_step_135 : decode cX5_step 135 = .ok (.getfield 7, 3) := by decide +kernel
theorem dX5_step_138 : decode cX5_step 138 = .ok (.iconst 3, 1) := by decide +kernel
theorem dX5_step_139 : decode cX5_step 139 = .ok (.iaload, 1) := by decide +kernel
theorem dX5_step_140 : decode cX5_step 140 = .ok (.idiv, 1) := by decide +kernel
theorem dX5_step_141 : decode cX5_step 141 = .ok (.iadd, 1) := by decide +kernel
theorem dX5_step_142 : decode cX5_step 142 = .ok (.iastore, 1) := by decide +kernel
theorem dX5_step_143 : decode cX5_step 143 = .ok (.goto 30, 3) := by decide +kernel
theorem dX5_step_146 : decode cX5_step 146 = .ok (.aload_n 0, 1) := by decide +kernel
theorem dX5_step_147 : decode cX5_step 147 = .ok (.getfield 7, 3) := by decide +kernel
theorem dX5_step_150 : decode cX5_step 150 = .ok (.iload_n 1, 1) := by decide +kernel
theorem dX5_step_151 : decode cX5_step 151 = .ok (.iconst 0, 1) := by decide +kernel
theorem dX5_step_152 : decode cX5_step 152 = .ok (.invokestatic 35, 3) := by decide +kernel
theorem dX5_step_155 : decode cX5_step 155 = .ok (.dup2, 1) := by decide +kernel
theorem dX5_step_156 : decode cX5_step 156 = .ok (.iaload, 1) := by decide +kernel
theorem dX5_step_157 : decode cX5_step 157 = .ok (.aload_n 0, 1) := by decide +kernel
theorem dX5_step_158 : decode cX5_step 158 = .ok (.getfield 7, 3) := by decide +kernel
theorem dX5_step_161 : decode cX5_step 161 = .ok (.bipush 17, 2) := by decide +kernel
theorem dX5_step_163 : decode cX5_step 163 = .ok (.iaload, 1) := by decide +kernel
theorem dX5_step_164 : decode cX5_step 164 = .ok (.aload_n 0, 1) := by decide +kernel
theorem dX5_step_165 : decode cX5_step 165 = .ok (.getfield 7, 3) := by decide +kernel
theorem dX5_step_168 : decode cX5_step 168 = .ok (.iconst 3, 1) := by decide +kernel
theorem dX5_step_169 : decode cX5_step 169 = .ok (.iaload, 1) := by decide +kernel
theorem dX5_step_170 : decode cX5_step 170 = .ok (.idiv, 1) := by decide +kernel
theorem dX5_step_171 : decode cX5_step 171 = .ok (.isub, 1) := by decide +kernel
theorem dX5_step_172 : decode cX5_step 172 = .ok (.iastore, 1) := by decide +kernel
theorem dX5_step_173 : decode cX5_step 173 = .ok (.aload_n 0, 1) := by decide +kernel
theorem dX5_step_174 : decode cX5_step 174 = .ok (.getfield 7, 3) := by decide +kernel
theorem dX5_step_177 : decode cX5_step 177 = .ok (.iload_n 1, 1) := by decide +kernel
theorem dX5_step_178 : decode cX5_step 178 = .ok (.iconst 0, 1) := by decide +kernel
theorem dX5_step_179 : decode cX5_step 179 = .ok (.invokestatic 35, 3) := by decide +kernel
theorem dX5_step_182 : decode cX5_step 182 = .ok (.aload_n 0, 1) := by decide +kernel
theorem dX5_step_183 : decode cX5_step 183 = .ok (.getfield 7, 3) := by decide +kernel
theorem dX5_step_186 : decode cX5_step 186 = .ok (.iload_n 1, 1) := by decide +kernel
theorem dX5_step_187 : decode cX5_step 187 = .ok (.iconst 0, 1) := by decide +kernel
theorem dX5_step_188 : decode cX5_step 188 = .ok (.invokestatic 35, 3) := by decide +kernel
theorem dX5_step_191 : decode cX5_step 191 = .ok (.iaload, 1) := by decide +kernel
theorem dX5_step_192 : decode cX5_step 192 = .ok (.ifCond .ge 7, 3) := by decide +kernel
theorem dX5_step_195 : decode cX5_step 195 = .ok (.iconst 0, 1) := by decide +kernel
theorem dX5_step_196 : decode cX5_step 196 = .ok (.goto 13, 3) := by decide +kernel
theorem dX5_step_199 : decode cX5_step 199 = .ok (.aload_n 0, 1) := by decide +kernel
theorem dX5_step_200 : decode cX5_step 200 = .ok (.getfield 7, 3) := by decide +kernel
theorem dX5_step_203 : decode cX5_step 203 = .ok (.iload_n 1, 1) := by decide +kernel
theorem dX5_step_204 : decode cX5_step 204 = .ok (.iconst 0, 1) := by decide +kernel
theorem dX5_step_205 : decode cX5_step 205 = .ok (.invokestatic 35, 3) := by decide +kernel
theorem dX5_step_208 : decode cX5_step 208 = .ok (.iaload, 1) := by decide +kernel
theorem dX5_step_209 : decode cX5_step 209 = .ok (.iastore, 1) := by decide +kernel
theorem dX5_step_210 : decode cX5_step 210 = .ok (.return_, 1) := by decide +kernel
set_option maxRecDepth 20000 in
theorem ggX5_slot_X5_runs : GoodIn wsX5_slot wsX5_runs := goodIn_r _ [10, 1, 33, 34, 35, 36, 37, 38, 39, 40, 41, 42, 43, 44, 45, 46, 47] (by decide +kernel) (by decide +kernel)
set_option maxRecDepth 20000 in
theorem gX5_slot_X5_runs : GoodIn wsX5_slot (wsV RX5 51 RX5 yX5_runs wsX5_runs) := goodIn_app (goodIn_of _ (by decide +kernel)) ggX5_slot_X5_runs
set_option maxRecDepth 20000 in
theorem ggX5_slot_X5_beginPulse : GoodIn wsX5_slot wsX5_beginPulse := goodIn_r _ [14, 1, 15, 16, 9, 17, 18, 19, 20, 21, 22, 23, 24, 33, 34, 35, 36, 37, 38, 39, 40, 41, 42, 43, 44, 45, 46, 47] (by decide +kernel) (by decide +kernel)
set_option maxRecDepth 20000 in
theorem gX5_slot_X5_beginPulse : GoodIn wsX5_slot (wsV RX5 55 RX5 yX5_beginPulse wsX5_beginPulse) := goodIn_app (goodIn_of _ (by decide +kernel)) ggX5_slot_X5_beginPulse
set_option maxRecDepth 20000 in
theorem ggX5_slot_X5_step : GoodIn wsX5_slot wsX5_step := goodIn_r _ [28, 1, 15, 16, 9, 17, 33, 34, 35, 36, 37, 38, 39, 40, 41, 42, 43, 44, 45, 46, 47] (by decide +kernel) (by decide +kernel)
set_option maxRecDepth 20000 in
theorem gX5_slot_X5_step : GoodIn wsX5_slot (wsV RX5 59 RX5 yX5_step wsX5_step) := goodIn_app (goodIn_of _ (by decide +kernel)) ggX5_slot_X5_step
set_option maxRecDepth 20000 in
theorem ggX5_slot_X5_at : GoodIn wsX5_slot wsX5_at := goodIn_r _ [17] (by decide +kernel) (by decide +kernel)
set_option maxRecDepth 20000 in
theorem gX5_slot_X5_at : GoodIn wsX5_slot (va_wsS RX5 35 yX5_at wsX5_at) := goodIn_app (goodIn_of _ (by decide +kernel)) ggX5_slot_X5_at
set_option maxRecDepth 20000 in
theorem ggX5_slot_X5_sum : GoodIn wsX5_slot wsX5_sum := goodIn_r _ [21, 1, 15, 16, 9, 17, 33, 34, 35, 36, 37, 38, 39, 40, 41, 42, 43, 44, 45, 46, 47] (by decide +kernel) (by decide +kernel)
set_option maxRecDepth 20000 in
theorem gX5_slot_X5_sum : GoodIn wsX5_slot (wsV RX5 48 RX5 yX5_sum wsX5_sum) := goodIn_app (goodIn_of _ (by decide +kernel)) ggX5_slot_X5_sum
set_option maxRecDepth 20000 in
theorem ggX5_slot_X5_clamped : GoodIn wsX5_slot wsX5_clamped := goodIn_r _ [24] (by decide +kernel) (by decide +kernel)
set_option maxRecDepth 20000 in
theorem gX5_slot_X5_clamped : GoodIn wsX5_slot (va_wsS RX5 41 yX5_clamped wsX5_clamped) := goodIn_app (goodIn_of _ (by decide +kernel)) ggX5_slot_X5_clamped
set_option maxRecDepth 20000 in
theorem ggX5_slot_X5_stopTo : GoodIn wsX5_slot wsX5_stopTo := goodIn_r _ [32, 1, 15, 16, 9, 17, 33, 34, 35, 36, 37, 38, 39, 40, 41, 42, 43, 44, 45, 46, 47] (by decide +kernel) (by decide +kernel)
set_option maxRecDepth 20000 in
theorem gX5_slot_X5_stopTo : GoodIn wsX5_slot (wsV RX5 66 RX5 yX5_stopTo wsX5_stopTo) := goodIn_app (goodIn_of _ (by decide +kernel)) ggX5_slot_X5_stopTo
theorem dX5_slot_0 : decode cX5_slot 0 = .ok (.iconst 0, 1) := by decide +kernel
theorem dX5_slot_1 : decode cX5_slot 1 = .ok (.istore_n 3, 1) := by decide +kernel
theorem dX5_slot_2 : decode cX5_slot 2 = .ok (.iload_n 3, 1) := by decide +kernel
theorem dX5_slot_3 : decode cX5_slot 3 = .ok (.aload_n 0, 1) := by decide +kernel
theorem dX5_slot_4 : decode cX5_slot 4 = .ok (.getfield 7, 3) := by decide +kernel
theorem dX5_slot_7 : decode cX5_slot 7 = .ok (.bipush 16, 2) := by decide +kernel
theorem dX5_slot_9 : decode cX5_slot 9 = .ok (.iaload, 1) := by decide +kernel
theorem dX5_slot_10 : decode cX5_slot 10 = .ok (.if_icmp .ge 38, 3) := by decide +kernel
theorem dX5_slot_13 : decode cX5_slot 13 = .ok (.aload_n 0, 1) := by decide +kernel
theorem dX5_slot_14 : decode cX5_slot 14 = .ok (.invokevirtual 51, 3) := by decide +kernel
theorem dX5_slot_17 : decode cX5_slot 17 = .ok (.ifCond .eq 25, 3) := by decide +kernel
theorem dX5_slot_20 : decode cX5_slot 20 = .ok (.iload_n 1, 1) := by decide +kernel
theorem dX5_slot_21 : decode cX5_slot 21 = .ok (.bipush 20, 2) := by decide +kernel
theorem dX5_slot_23 : decode cX5_slot 23 = .ok (.iload_n 3, 1) := by decide +kernel
theorem dX5_slot_24 : decode cX5_slot 24 = .ok (.imul, 1) := by decide +kernel
theorem dX5_slot_25 : decode cX5_slot 25 = .ok (.aload_n 0, 1) := by decide +kernel
theorem dX5_slot_26 : decode cX5_slot 26 = .ok (.getfield 7, 3) := by decide +kernel
theorem dX5_slot_29 : decode cX5_slot 29 = .ok (.bipush 16, 2) := by decide +kernel
theorem dX5_slot_31 : decode cX5_slot 31 = .ok (.iaload, 1) := by decide +kernel
theorem dX5_slot_32 : decode cX5_slot 32 = .ok (.idiv, 1) := by decide +kernel
theorem dX5_slot_33 : decode cX5_slot 33 = .ok (.if_icmp .ne 9, 3) := by decide +kernel
theorem dX5_slot_36 : decode cX5_slot 36 = .ok (.aload_n 0, 1) := by decide +kernel
theorem dX5_slot_37 : decode cX5_slot 37 = .ok (.iload_n 3, 1) := by decide +kernel
theorem dX5_slot_38 : decode cX5_slot 38 = .ok (.iload_n 2, 1) := by decide +kernel
theorem dX5_slot_39 : decode cX5_slot 39 = .ok (.invokevirtual 55, 3) := by decide +kernel
theorem dX5_slot_42 : decode cX5_slot 42 = .ok (.iinc 3 1, 3) := by decide +kernel
theorem dX5_slot_45 : decode cX5_slot 45 = .ok (.goto (-43), 3) := by decide +kernel
theorem dX5_slot_48 : decode cX5_slot 48 = .ok (.iconst 0, 1) := by decide +kernel
theorem dX5_slot_49 : decode cX5_slot 49 = .ok (.istore_n 3, 1) := by decide +kernel
theorem dX5_slot_50 : decode cX5_slot 50 = .ok (.iload_n 3, 1) := by decide +kernel
theorem dX5_slot_51 : decode cX5_slot 51 = .ok (.aload_n 0, 1) := by decide +kernel
theorem dX5_slot_52 : decode cX5_slot 52 = .ok (.getfield 7, 3) := by decide +kernel
theorem dX5_slot_55 : decode cX5_slot 55 = .ok (.bipush 15, 2) := by decide +kernel
theorem dX5_slot_57 : decode cX5_slot 57 = .ok (.iaload, 1) := by decide +kernel
theorem dX5_slot_58 : decode cX5_slot 58 = .ok (.if_icmp .ge 52, 3) := by decide +kernel
theorem dX5_slot_61 : decode cX5_slot 61 = .ok (.aload_n 0, 1) := by decide +kernel
theorem dX5_slot_62 : decode cX5_slot 62 = .ok (.iload_n 3, 1) := by decide +kernel
theorem dX5_slot_63 : decode cX5_slot 63 = .ok (.invokevirtual 59, 3) := by decide +kernel
theorem dX5_slot_66 : decode cX5_slot 66 = .ok (.aload_n 0, 1) := by decide +kernel
theorem dX5_slot_67 : decode cX5_slot 67 = .ok (.aload_n 0, 1) := by decide +kernel
theorem dX5_slot_68 : decode cX5_slot 68 = .ok (.getfield 7, 3) := by decide +kernel
theorem dX5_slot_71 : decode cX5_slot 71 = .ok (.iload_n 3, 1) := by decide +kernel
theorem dX5_slot_72 : decode cX5_slot 72 = .ok (.iconst 0, 1) := by decide +kernel
theorem dX5_slot_73 : decode cX5_slot 73 = .ok (.invokestatic 35, 3) := by decide +kernel
theorem dX5_slot_76 : decode cX5_slot 76 = .ok (.iaload, 1) := by decide +kernel
theorem dX5_slot_77 : decode cX5_slot 77 = .ok (.aload_n 0, 1) := by decide +kernel
theorem dX5_slot_78 : decode cX5_slot 78 = .ok (.getfield 62, 3) := by decide +kernel
theorem dX5_slot_81 : decode cX5_slot 81 = .ok (.if_icmp .le 16, 3) := by decide +kernel
theorem dX5_slot_84 : decode cX5_slot 84 = .ok (.aload_n 0, 1) := by decide +kernel
theorem dX5_slot_85 : decode cX5_slot 85 = .ok (.getfield 7, 3) := by decide +kernel
theorem dX5_slot_88 : decode cX5_slot 88 = .ok (.iload_n 3, 1) := by decide +kernel
theorem dX5_slot_89 : decode cX5_slot 89 = .ok (.iconst 0, 1) := by decide +kernel
theorem dX5_slot_90 : decode cX5_slot 90 = .ok (.invokestatic 35, 3) := by decide +kernel
theorem dX5_slot_93 : decode cX5_slot 93 = .ok (.iaload, 1) := by decide +kernel
theorem dX5_slot_94 : decode cX5_slot 94 = .ok (.goto 7, 3) := by decide +kernel
theorem dX5_slot_97 : decode cX5_slot 97 = .ok (.aload_n 0, 1) := by decide +kernel
theorem dX5_slot_98 : decode cX5_slot 98 = .ok (.getfield 62, 3) := by decide +kernel
theorem dX5_slot_101 : decode cX5_slot 101 = .ok (.putfield 62, 3) := by decide +kernel
theorem dX5_slot_104 : decode cX5_slot 104 = .ok (.iinc 3 1, 3) := by decide +kernel
theorem dX5_slot_107 : decode cX5_slot 107 = .ok (.goto (-57), 3) := by decide +kernel
theorem dX5_slot_110 : decode cX5_slot 110 = .ok (.aload_n 0, 1) := by decide +kernel
theorem dX5_slot_111 : decode cX5_slot 111 = .ok (.getfield 7, 3) := by decide +kernel
theorem dX5_slot_114 : decode cX5_slot 114 = .ok (.bipush 17, 2) := by decide +kernel
theorem dX5_slot_116 : decode cX5_slot 116 = .ok (.aload_n 0, 1) := by decide +kernel
theorem dX5_slot_117 : decode cX5_slot 117 = .ok (.getfield 7, 3) := by decide +kernel
theorem dX5_slot_120 : decode cX5_slot 120 = .ok (.bipush 17, 2) := by decide +kernel
theorem dX5_slot_122 : decode cX5_slot 122 = .ok (.iaload, 1) := by decide +kernel
theorem dX5_slot_123 : decode cX5_slot 123 = .ok (.aload_n 0, 1) := by decide +kernel
theorem dX5_slot_124 : decode cX5_slot 124 = .ok (.aload_n 0, 1) := by decide +kernel
theorem dX5_slot_125 : decode cX5_slot 125 = .ok (.getfield 7, 3) := by decide +kernel
theorem dX5_slot_128 : decode cX5_slot 128 = .ok (.bipush 15, 2) := by decide +kernel
theorem dX5_slot_130 : decode cX5_slot 130 = .ok (.iaload, 1) := by decide +kernel
theorem dX5_slot_131 : decode cX5_slot 131 = .ok (.invokevirtual 48, 3) := by decide +kernel
theorem dX5_slot_134 : decode cX5_slot 134 = .ok (.aload_n 0, 1) := by decide +kernel
theorem dX5_slot_135 : decode cX5_slot 135 = .ok (.getfield 7, 3) := by decide +kernel
theorem dX5_slot_138 : decode cX5_slot 138 = .ok (.iconst 2, 1) := by decide +kernel
theorem dX5_slot_139 : decode cX5_slot 139 = .ok (.iaload, 1) := by decide +kernel
theorem dX5_slot_140 : decode cX5_slot 140 = .ok (.isub, 1) := by decide +kernel
theorem dX5_slot_141 : decode cX5_slot 141 = .ok (.aload_n 0, 1) := by decide +kernel
theorem dX5_slot_142 : decode cX5_slot 142 = .ok (.getfield 7, 3) := by decide +kernel
theorem dX5_slot_145 : decode cX5_slot 145 = .ok (.iconst 4, 1) := by decide +kernel
theorem dX5_slot_146 : decode cX5_slot 146 = .ok (.iaload, 1) := by decide +kernel
theorem dX5_slot_147 : decode cX5_slot 147 = .ok (.idiv, 1) := by decide +kernel
theorem dX5_slot_148 : decode cX5_slot 148 = .ok (.iadd, 1) := by decide +kernel
theorem dX5_slot_149 : decode cX5_slot 149 = .ok (.iconst 0, 1) := by decide +kernel
theorem dX5_slot_150 : decode cX5_slot 150 = .ok (.ldc 65, 2) := by decide +kernel
theorem dX5_slot_152 : decode cX5_slot 152 = .ok (.invokestatic 41, 3) := by decide +kernel
theorem dX5_slot_155 : decode cX5_slot 155 = .ok (.iastore, 1) := by decide +kernel
theorem dX5_slot_156 : decode cX5_slot 156 = .ok (.aload_n 0, 1) := by decide +kernel
theorem dX5_slot_157 : decode cX5_slot 157 = .ok (.invokevirtual 51, 3) := by decide +kernel
theorem dX5_slot_160 : decode cX5_slot 160 = .ok (.ifCond .eq 25, 3) := by decide +kernel
theorem dX5_slot_163 : decode cX5_slot 163 = .ok (.aload_n 0, 1) := by decide +kernel
theorem dX5_slot_164 : decode cX5_slot 164 = .ok (.getfield 7, 3) := by decide +kernel
theorem dX5_slot_167 : decode cX5_slot 167 = .ok (.bipush 17, 2) := by decide +kernel
theorem dX5_slot_169 : decode cX5_slot 169 = .ok (.iaload, 1) := by decide +kernel
theorem dX5_slot_170 : decode cX5_slot 170 = .ok (.aload_n 0, 1) := by decide +kernel
theorem dX5_slot_171 : decode cX5_slot 171 = .ok (.getfield 7, 3) := by decide +kernel
theorem dX5_slot_174 : decode cX5_slot 174 = .ok (.bipush 12, 2) := by decide +kernel
theorem dX5_slot_176 : decode cX5_slot 176 = .ok (.iaload, 1) := by decide +kernel
theorem dX5_slot_177 : decode cX5_slot 177 = .ok (.if_icmp .le 8, 3) := by decide +kernel
theorem dX5_slot_180 : decode cX5_slot 180 = .ok (.aload_n 0, 1) := by decide +kernel
theorem dX5_slot_181 : decode cX5_slot 181 = .ok (.iconst 3, 1) := by decide +kernel
theorem dX5_slot_182 : decode cX5_slot 182 = .ok (.invokevirtual 66, 3) := by decide +kernel
theorem dX5_slot_185 : decode cX5_slot 185 = .ok (.aload_n 0, 1) := by decide +kernel
theorem dX5_slot_186 : decode cX5_slot 186 = .ok (.aload_n 0, 1) := by decide +kernel
theorem dX5_slot_187 : decode cX5_slot 187 = .ok (.getfield 7, 3) := by decide +kernel
theorem dX5_slot_190 : decode cX5_slot 190 = .ok (.bipush 17, 2) := by decide +kernel
theorem dX5_slot_192 : decode cX5_slot 192 = .ok (.iaload, 1) := by decide +kernel
theorem dX5_slot_193 : decode cX5_slot 193 = .ok (.aload_n 0, 1) := by decide +kernel
theorem dX5_slot_194 : decode cX5_slot 194 = .ok (.getfield 69, 3) := by decide +kernel
theorem dX5_slot_197 : decode cX5_slot 197 = .ok (.if_icmp .ge 13, 3) := by decide +kernel
theorem dX5_slot_200 : decode cX5_slot 200 = .ok (.aload_n 0, 1) := by decide +kernel
theorem dX5_slot_201 : decode cX5_slot 201 = .ok (.getfield 7, 3) := by decide +kernel
theorem dX5_slot_204 : decode cX5_slot 204 = .ok (.bipush 17, 2) := by decide +kernel
theorem dX5_slot_206 : decode cX5_slot 206 = .ok (.iaload, 1) := by decide +kernel
theorem dX5_slot_207 : decode cX5_slot 207 = .ok (.goto 7, 3) := by decide +kernel
theorem dX5_slot_210 : decode cX5_slot 210 = .ok (.aload_n 0, 1) := by decide +kernel
theorem dX5_slot_211 : decode cX5_slot 211 = .ok (.getfield 69, 3) := by decide +kernel
theorem dX5_slot_214 : decode cX5_slot 214 = .ok (.putfield 69, 3) := by decide +kernel
theorem dX5_slot_217 : decode cX5_slot 217 = .ok (.aload_n 0, 1) := by decide +kernel
theorem dX5_slot_218 : decode cX5_slot 218 = .ok (.aload_n 0, 1) := by decide +kernel
theorem dX5_slot_219 : decode cX5_slot 219 = .ok (.getfield 7, 3) := by decide +kernel
theorem dX5_slot_222 : decode cX5_slot 222 = .ok (.bipush 17, 2) := by decide +kernel
theorem dX5_slot_224 : decode cX5_slot 224 = .ok (.iaload, 1) := by decide +kernel
theorem dX5_slot_225 : decode cX5_slot 225 = .ok (.aload_n 0, 1) := by decide +kernel
theorem dX5_slot_226 : decode cX5_slot 226 = .ok (.getfield 72, 3) := by decide +kernel
theorem dX5_slot_229 : decode cX5_slot 229 = .ok (.if_icmp .le 13, 3) := by decide +kernel
theorem dX5_slot_232 : decode cX5_slot 232 = .ok (.aload_n 0, 1) := by decide +kernel
theorem dX5_slot_233 : decode cX5_slot 233 = .ok (.getfield 7, 3) := by decide +kernel
theorem dX5_slot_236 : decode cX5_slot 236 = .ok (.bipush 17, 2) := by decide +kernel
theorem dX5_slot_238 : decode cX5_slot 238 = .ok (.iaload, 1) := by decide +kernel
theorem dX5_slot_239 : decode cX5_slot 239 = .ok (.goto 7, 3) := by decide +kernel
theorem dX5_slot_242 : decode cX5_slot 242 = .ok (.aload_n 0, 1) := by decide +kernel
theorem dX5_slot_243 : decode cX5_slot 243 = .ok (.getfield 72, 3) := by decide +kernel
theorem dX5_slot_246 : decode cX5_slot 246 = .ok (.putfield 72, 3) := by decide +kernel
theorem dX5_slot_249 : decode cX5_slot 249 = .ok (.return_, 1) := by decide +kernel
theorem dX5_record_0 : decode cX5_record 0 = .ok (.sipush 158, 3) := by decide +kernel
theorem dX5_record_3 : decode cX5_record 3 = .ok (.istore_n 2, 1) := by decide +kernel
theorem dX5_record_4 : decode cX5_record 4 = .ok (.iload_n 2, 1) := by decide +kernel
theorem dX5_record_5 : decode cX5_record 5 = .ok (.bipush 69, 2) := by decide +kernel
theorem dX5_record_7 : decode cX5_record 7 = .ok (.if_icmp .lt 24, 3) := by decide +kernel
theorem dX5_record_10 : decode cX5_record 10 = .ok (.aload_n 0, 1) := by decide +kernel
theorem dX5_record_11 : decode cX5_record 11 = .ok (.getfield 7, 3) := by decide +kernel
theorem dX5_record_14 : decode cX5_record 14 = .ok (.iload_n 2, 1) := by decide +kernel
theorem dX5_record_15 : decode cX5_record 15 = .ok (.aload_n 0, 1) := by decide +kernel
theorem dX5_record_16 : decode cX5_record 16 = .ok (.getfield 7, 3) := by decide +kernel
theorem dX5_record_19 : decode cX5_record 19 = .ok (.iload_n 2, 1) := by decide +kernel
theorem dX5_record_20 : decode cX5_record 20 = .ok (.bipush 6, 2) := by decide +kernel
theorem dX5_record_22 : decode cX5_record 22 = .ok (.isub, 1) := by decide +kernel
theorem dX5_record_23 : decode cX5_record 23 = .ok (.iaload, 1) := by decide +kernel
theorem dX5_record_24 : decode cX5_record 24 = .ok (.iastore, 1) := by decide +kernel
theorem dX5_record_25 : decode cX5_record 25 = .ok (.iinc 2 (-1), 3) := by decide +kernel
theorem dX5_record_28 : decode cX5_record 28 = .ok (.goto (-24), 3) := by decide +kernel
theorem dX5_record_31 : decode cX5_record 31 = .ok (.aload_n 0, 1) := by decide +kernel
theorem dX5_record_32 : decode cX5_record 32 = .ok (.getfield 7, 3) := by decide +kernel
theorem dX5_record_35 : decode cX5_record 35 = .ok (.bipush 63, 2) := by decide +kernel
theorem dX5_record_37 : decode cX5_record 37 = .ok (.aload_n 0, 1) := by decide +kernel
theorem dX5_record_38 : decode cX5_record 38 = .ok (.getfield 7, 3) := by decide +kernel
theorem dX5_record_41 : decode cX5_record 41 = .ok (.bipush 17, 2) := by decide +kernel
theorem dX5_record_43 : decode cX5_record 43 = .ok (.iaload, 1) := by decide +kernel
theorem dX5_record_44 : decode cX5_record 44 = .ok (.iastore, 1) := by decide +kernel
theorem dX5_record_45 : decode cX5_record 45 = .ok (.aload_n 0, 1) := by decide +kernel
theorem dX5_record_46 : decode cX5_record 46 = .ok (.getfield 7, 3) := by decide +kernel
theorem dX5_record_49 : decode cX5_record 49 = .ok (.bipush 64, 2) := by decide +kernel
theorem dX5_record_51 : decode cX5_record 51 = .ok (.aload_n 0, 1) := by decide +kernel
theorem dX5_record_52 : decode cX5_record 52 = .ok (.getfield 7, 3) := by decide +kernel
theorem dX5_record_55 : decode cX5_record 55 = .ok (.bipush 22, 2) := by decide +kernel
theorem dX5_record_57 : decode cX5_record 57 = .ok (.iaload, 1) := by decide +kernel
theorem dX5_record_58 : decode cX5_record 58 = .ok (.iastore, 1) := by decide +kernel
theorem dX5_record_59 : decode cX5_record 59 = .ok (.aload_n 0, 1) := by decide +kernel
theorem dX5_record_60 : decode cX5_record 60 = .ok (.getfield 7, 3) := by decide +kernel
theorem dX5_record_63 : decode cX5_record 63 = .ok (.bipush 65, 2) := by decide +kernel
theorem dX5_record_65 : decode cX5_record 65 = .ok (.aload_n 0, 1) := by decide +kernel
theorem dX5_record_66 : decode cX5_record 66 = .ok (.getfield 7, 3) := by decide +kernel
theorem dX5_record_69 : decode cX5_record 69 = .ok (.bipush 23, 2) := by decide +kernel
theorem dX5_record_71 : decode cX5_record 71 = .ok (.iaload, 1) := by decide +kernel
theorem dX5_record_72 : decode cX5_record 72 = .ok (.iastore, 1) := by decide +kernel
theorem dX5_record_73 : decode cX5_record 73 = .ok (.aload_n 0, 1) := by decide +kernel
theorem dX5_record_74 : decode cX5_record 74 = .ok (.getfield 7, 3) := by decide +kernel
theorem dX5_record_77 : decode cX5_record 77 = .ok (.bipush 66, 2) := by decide +kernel
theorem dX5_record_79 : decode cX5_record 79 = .ok (.aload_n 0, 1) := by decide +kernel
theorem dX5_record_80 : decode cX5_record 80 = .ok (.getfield 7, 3) := by decide +kernel
theorem dX5_record_83 : decode cX5_record 83 = .ok (.bipush 16, 2) := by decide +kernel
theorem dX5_record_85 : decode cX5_record 85 = .ok (.iaload, 1) := by decide +kernel
theorem dX5_record_86 : decode cX5_record 86 = .ok (.iastore, 1) := by decide +kernel
theorem dX5_record_87 : decode cX5_record 87 = .ok (.aload_n 0, 1) := by decide +kernel
theorem dX5_record_88 : decode cX5_record 88 = .ok (.getfield 7, 3) := by decide +kernel
theorem dX5_record_91 : decode cX5_record 91 = .ok (.bipush 67, 2) := by decide +kernel
theorem dX5_record_93 : decode cX5_record 93 = .ok (.aload_n 0, 1) := by decide +kernel
theorem dX5_record_94 : decode cX5_record 94 = .ok (.getfield 7, 3) := by decide +kernel
theorem dX5_record_97 : decode cX5_record 97 = .ok (.bipush 20, 2) := by decide +kernel
theorem dX5_record_99 : decode cX5_record 99 = .ok (.iaload, 1) := by decide +kernel
theorem dX5_record_100 : decode cX5_record 100 = .ok (.iastore, 1) := by decide +kernel
theorem dX5_record_101 : decode cX5_record 101 = .ok (.aload_n 0, 1) := by decide +kernel
theorem dX5_record_102 : decode cX5_record 102 = .ok (.getfield 7, 3) := by decide +kernel
theorem dX5_record_105 : decode cX5_record 105 = .ok (.bipush 68, 2) := by decide +kernel
theorem dX5_record_107 : decode cX5_record 107 = .ok (.iload_n 1, 1) := by decide +kernel
theorem dX5_record_108 : decode cX5_record 108 = .ok (.iastore, 1) := by decide +kernel
theorem dX5_record_109 : decode cX5_record 109 = .ok (.aload_n 0, 1) := by decide +kernel
theorem dX5_record_110 : decode cX5_record 110 = .ok (.getfield 7, 3) := by decide +kernel
theorem dX5_record_113 : decode cX5_record 113 = .ok (.bipush 31, 2) := by decide +kernel
theorem dX5_record_115 : decode cX5_record 115 = .ok (.dup2, 1) := by decide +kernel
theorem dX5_record_116 : decode cX5_record 116 = .ok (.iaload, 1) := by decide +kernel
theorem dX5_record_117 : decode cX5_record 117 = .ok (.aload_n 0, 1) := by decide +kernel
theorem dX5_record_118 : decode cX5_record 118 = .ok (.getfield 7, 3) := by decide +kernel
theorem dX5_record_121 : decode cX5_record 121 = .ok (.bipush 31, 2) := by decide +kernel
theorem dX5_record_123 : decode cX5_record 123 = .ok (.iaload, 1) := by decide +kernel
theorem dX5_record_124 : decode cX5_record 124 = .ok (.bipush 16, 2) := by decide +kernel
theorem dX5_record_126 : decode cX5_record 126 = .ok (.if_icmp .ge 7, 3) := by decide +kernel
theorem dX5_record_129 : decode cX5_record 129 = .ok (.iconst 1, 1) := by decide +kernel
theorem dX5_record_130 : decode cX5_record 130 = .ok (.goto 4, 3) := by decide +kernel
theorem dX5_record_133 : decode cX5_record 133 = .ok (.iconst 0, 1) := by decide +kernel
theorem dX5_record_134 : decode cX5_record 134 = .ok (.iadd, 1) := by decide +kernel
theorem dX5_record_135 : decode cX5_record 135 = .ok (.iastore, 1) := by decide +kernel
theorem dX5_record_136 : decode cX5_record 136 = .ok (.return_, 1) := by decide +kernel
theorem dX5_layExtremes_0 : decode cX5_layExtremes 0 = .ok (.aload_n 0, 1) := by decide +kernel
theorem dX5_layExtremes_1 : decode cX5_layExtremes 1 = .ok (.ldc 75, 2) := by decide +kernel
theorem dX5_layExtremes_3 : decode cX5_layExtremes 3 = .ok (.putfield 69, 3) := by decide +kernel
theorem dX5_layExtremes_6 : decode cX5_layExtremes 6 = .ok (.aload_n 0, 1) := by decide +kernel
theorem dX5_layExtremes_7 : decode cX5_layExtremes 7 = .ok (.iconst (-1), 1) := by decide +kernel
theorem dX5_layExtremes_8 : decode cX5_layExtremes 8 = .ok (.putfield 72, 3) := by decide +kernel
theorem dX5_layExtremes_11 : decode cX5_layExtremes 11 = .ok (.aload_n 0, 1) := by decide +kernel
theorem dX5_layExtremes_12 : decode cX5_layExtremes 12 = .ok (.iconst 0, 1) := by decide +kernel
theorem dX5_layExtremes_13 : decode cX5_layExtremes 13 = .ok (.putfield 62, 3) := by decide +kernel
theorem dX5_layExtremes_16 : decode cX5_layExtremes 16 = .ok (.return_, 1) := by decide +kernel
set_option maxRecDepth 20000 in
theorem ggX5_cycle_X5_runs : GoodIn wsX5_cycle wsX5_runs := goodIn_r _ [8, 1, 60, 61, 62, 63, 64, 65, 66, 67, 68, 69, 70, 71, 72, 73, 74] (by decide +kernel) (by decide +kernel)
set_option maxRecDepth 20000 in
theorem gX5_cycle_X5_runs : GoodIn wsX5_cycle (wsV RX5 51 RX5 yX5_runs wsX5_runs) := goodIn_app (goodIn_of _ (by decide +kernel)) ggX5_cycle_X5_runs
set_option maxRecDepth 20000 in
theorem ggX5_cycle_X5_stopTo : GoodIn wsX5_cycle wsX5_stopTo := goodIn_r _ [12, 1, 13, 14, 7, 15, 60, 61, 62, 63, 64, 65, 66, 67, 68, 69, 70, 71, 72, 73, 74] (by decide +kernel) (by decide +kernel)
set_option maxRecDepth 20000 in
theorem gX5_cycle_X5_stopTo : GoodIn wsX5_cycle (wsV RX5 66 RX5 yX5_stopTo wsX5_stopTo) := goodIn_app (goodIn_of _ (by decide +kernel)) ggX5_cycle_X5_stopTo
set_option maxRecDepth 20000 in
theorem ggX5_cycle_X5_aim : GoodIn wsX5_cycle wsX5_aim := goodIn_r _ [19, 1, 60, 61, 62, 63, 64, 65, 66, 67, 68, 69, 70, 71, 72, 73, 74] (by decide +kernel) (by decide +kernel)
set_option maxRecDepth 20000 in
theorem gX5_cycle_X5_aim : GoodIn wsX5_cycle (wsV RX5 76 RX5 yX5_aim wsX5_aim) := goodIn_app (goodIn_of _ (by decide +kernel)) ggX5_cycle_X5_aim
set_option maxRecDepth 20000 in
theorem ggX5_cycle_X5_regulate : GoodIn wsX5_cycle wsX5_regulate := goodIn_r _ [23, 1, 24, 25, 26, 27, 7, 28, 60, 61, 62, 63, 64, 65, 66, 67, 68, 69, 70, 71, 72, 73, 74] (by decide +kernel) (by decide +kernel)
set_option maxRecDepth 20000 in
theorem gX5_cycle_X5_regulate : GoodIn wsX5_cycle (wsV RX5 79 RX5 yX5_regulate wsX5_regulate) := goodIn_app (goodIn_of _ (by decide +kernel)) ggX5_cycle_X5_regulate
set_option maxRecDepth 20000 in
theorem ggX5_cycle_X5_choosePhases : GoodIn wsX5_cycle wsX5_choosePhases := goodIn_r _ [32, 1, 33, 34, 35, 7, 36, 13, 14, 15, 60, 61, 62, 63, 64, 65, 66, 67, 68, 69, 70, 71, 72, 73, 74] (by decide +kernel) (by decide +kernel)
set_option maxRecDepth 20000 in
theorem gX5_cycle_X5_choosePhases : GoodIn wsX5_cycle (wsV RX5 82 RX5 yX5_choosePhases wsX5_choosePhases) := goodIn_app (goodIn_of _ (by decide +kernel)) ggX5_cycle_X5_choosePhases
set_option maxRecDepth 20000 in
theorem ggX5_cycle_X5_slot : GoodIn wsX5_cycle wsX5_slot := goodIn_r _ [40, 1, 3, 41, 42, 43, 4, 5, 6, 7, 8, 44, 45, 46, 47, 13, 14, 15, 48, 49, 50, 51, 26, 27, 28, 52, 53, 54, 55, 9, 10, 11, 12, 60, 61, 62, 63, 64, 65, 66, 67, 68, 69, 70, 71, 72, 73, 74] (by decide +kernel) (by decide +kernel)
set_option maxRecDepth 20000 in
theorem gX5_cycle_X5_slot : GoodIn wsX5_cycle (wsV RX5 85 RX5 yX5_slot wsX5_slot) := goodIn_app (goodIn_of _ (by decide +kernel)) ggX5_cycle_X5_slot
set_option maxRecDepth 20000 in
theorem ggX5_cycle_X5_sum : GoodIn wsX5_cycle wsX5_sum := goodIn_r _ [51, 1, 13, 14, 7, 15, 60, 61, 62, 63, 64, 65, 66, 67, 68, 69, 70, 71, 72, 73, 74] (by decide +kernel) (by decide +kernel)
set_option maxRecDepth 20000 in
theorem gX5_cycle_X5_sum : GoodIn wsX5_cycle (wsV RX5 48 RX5 yX5_sum wsX5_sum) := goodIn_app (goodIn_of _ (by decide +kernel)) ggX5_cycle_X5_sum
set_option maxRecDepth 20000 in
theorem ggX5_cycle_X5_record : GoodIn wsX5_cycle wsX5_record := goodIn_r _ [59, 1, 60, 61, 62, 63, 64, 65, 66, 67, 68, 69, 70, 71, 72, 73, 74] (by decide +kernel) (by decide +kernel)
set_option maxRecDepth 20000 in
theorem gX5_cycle_X5_record : GoodIn wsX5_cycle (wsV RX5 88 RX5 yX5_record wsX5_record) := goodIn_app (goodIn_of _ (by decide +kernel)) ggX5_cycle_X5_record
theorem dX5_cycle_0 : decode cX5_cycle 0 = .ok (.aload_n 0, 1) := by decide +kernel
theorem dX5_cycle_1 : decode cX5_cycle 1 = .ok (.invokevirtual 51, 3) := by decide +kernel
theorem dX5_cycle_4 : decode cX5_cycle 4 = .ok (.ifCond .eq 24, 3) := by decide +kernel
theorem dX5_cycle_7 : decode cX5_cycle 7 = .ok (.aload_n 0, 1) := by decide +kernel
theorem dX5_cycle_8 : decode cX5_cycle 8 = .ok (.getfield 7, 3) := by decide +kernel
theorem dX5_cycle_11 : decode cX5_cycle 11 = .ok (.iconst 0, 1) := by decide +kernel
theorem dX5_cycle_12 : decode cX5_cycle 12 = .ok (.iaload, 1) := by decide +kernel
theorem dX5_cycle_13 : decode cX5_cycle 13 = .ok (.aload_n 0, 1) := by decide +kernel
theorem dX5_cycle_14 : decode cX5_cycle 14 = .ok (.getfield 7, 3) := by decide +kernel
theorem dX5_cycle_17 : decode cX5_cycle 17 = .ok (.bipush 13, 2) := by decide +kernel
theorem dX5_cycle_19 : decode cX5_cycle 19 = .ok (.iaload, 1) := by decide +kernel
theorem dX5_cycle_20 : decode cX5_cycle 20 = .ok (.if_icmp .ge 8, 3) := by decide +kernel
theorem dX5_cycle_23 : decode cX5_cycle 23 = .ok (.aload_n 0, 1) := by decide +kernel
theorem dX5_cycle_24 : decode cX5_cycle 24 = .ok (.iconst 4, 1) := by decide +kernel
theorem dX5_cycle_25 : decode cX5_cycle 25 = .ok (.invokevirtual 66, 3) := by decide +kernel
theorem dX5_cycle_28 : decode cX5_cycle 28 = .ok (.aload_n 0, 1) := by decide +kernel
theorem dX5_cycle_29 : decode cX5_cycle 29 = .ok (.invokevirtual 76, 3) := by decide +kernel
theorem dX5_cycle_32 : decode cX5_cycle 32 = .ok (.aload_n 0, 1) := by decide +kernel
theorem dX5_cycle_33 : decode cX5_cycle 33 = .ok (.getfield 7, 3) := by decide +kernel
theorem dX5_cycle_36 : decode cX5_cycle 36 = .ok (.bipush 22, 2) := by decide +kernel
theorem dX5_cycle_38 : decode cX5_cycle 38 = .ok (.iaload, 1) := by decide +kernel
theorem dX5_cycle_39 : decode cX5_cycle 39 = .ok (.istore_n 1, 1) := by decide +kernel
theorem dX5_cycle_40 : decode cX5_cycle 40 = .ok (.aload_n 0, 1) := by decide +kernel
theorem dX5_cycle_41 : decode cX5_cycle 41 = .ok (.invokevirtual 51, 3) := by decide +kernel
theorem dX5_cycle_44 : decode cX5_cycle 44 = .ok (.ifCond .eq 11, 3) := by decide +kernel
theorem dX5_cycle_47 : decode cX5_cycle 47 = .ok (.aload_n 0, 1) := by decide +kernel
theorem dX5_cycle_48 : decode cX5_cycle 48 = .ok (.invokevirtual 79, 3) := by decide +kernel
theorem dX5_cycle_51 : decode cX5_cycle 51 = .ok (.aload_n 0, 1) := by decide +kernel
theorem dX5_cycle_52 : decode cX5_cycle 52 = .ok (.invokevirtual 82, 3) := by decide +kernel
theorem dX5_cycle_55 : decode cX5_cycle 55 = .ok (.aload_n 0, 1) := by decide +kernel
theorem dX5_cycle_56 : decode cX5_cycle 56 = .ok (.getfield 7, 3) := by decide +kernel
theorem dX5_cycle_59 : decode cX5_cycle 59 = .ok (.bipush 25, 2) := by decide +kernel
theorem dX5_cycle_61 : decode cX5_cycle 61 = .ok (.iaload, 1) := by decide +kernel
theorem dX5_cycle_62 : decode cX5_cycle 62 = .ok (.istore_n 2, 1) := by decide +kernel
theorem dX5_cycle_63 : decode cX5_cycle 63 = .ok (.iconst 0, 1) := by decide +kernel
theorem dX5_cycle_64 : decode cX5_cycle 64 = .ok (.istore_n 3, 1) := by decide +kernel
theorem dX5_cycle_65 : decode cX5_cycle 65 = .ok (.ldc 75, 2) := by decide +kernel
theorem dX5_cycle_67 : decode cX5_cycle 67 = .ok (.istore 4, 2) := by decide +kernel
theorem dX5_cycle_69 : decode cX5_cycle 69 = .ok (.iconst (-1), 1) := by decide +kernel
theorem dX5_cycle_70 : decode cX5_cycle 70 = .ok (.istore 5, 2) := by decide +kernel
theorem dX5_cycle_72 : decode cX5_cycle 72 = .ok (.iconst 0, 1) := by decide +kernel
theorem dX5_cycle_73 : decode cX5_cycle 73 = .ok (.istore 6, 2) := by decide +kernel
theorem dX5_cycle_75 : decode cX5_cycle 75 = .ok (.iload 6, 2) := by decide +kernel
theorem dX5_cycle_77 : decode cX5_cycle 77 = .ok (.bipush 20, 2) := by decide +kernel
theorem dX5_cycle_79 : decode cX5_cycle 79 = .ok (.if_icmp .ge 82, 3) := by decide +kernel
theorem dX5_cycle_82 : decode cX5_cycle 82 = .ok (.aload_n 0, 1) := by decide +kernel
theorem dX5_cycle_83 : decode cX5_cycle 83 = .ok (.iload 6, 2) := by decide +kernel
theorem dX5_cycle_85 : decode cX5_cycle 85 = .ok (.iload_n 1, 1) := by decide +kernel
theorem dX5_cycle_86 : decode cX5_cycle 86 = .ok (.invokevirtual 85, 3) := by decide +kernel
theorem dX5_cycle_89 : decode cX5_cycle 89 = .ok (.iload_n 3, 1) := by decide +kernel
theorem dX5_cycle_90 : decode cX5_cycle 90 = .ok (.aload_n 0, 1) := by decide +kernel
theorem dX5_cycle_91 : decode cX5_cycle 91 = .ok (.aload_n 0, 1) := by decide +kernel
theorem dX5_cycle_92 : decode cX5_cycle 92 = .ok (.getfield 7, 3) := by decide +kernel
theorem dX5_cycle_95 : decode cX5_cycle 95 = .ok (.bipush 15, 2) := by decide +kernel
theorem dX5_cycle_97 : decode cX5_cycle 97 = .ok (.iaload, 1) := by decide +kernel
theorem dX5_cycle_98 : decode cX5_cycle 98 = .ok (.invokevirtual 48, 3) := by decide +kernel
theorem dX5_cycle_101 : decode cX5_cycle 101 = .ok (.iadd, 1) := by decide +kernel
theorem dX5_cycle_102 : decode cX5_cycle 102 = .ok (.istore_n 3, 1) := by decide +kernel
theorem dX5_cycle_103 : decode cX5_cycle 103 = .ok (.aload_n 0, 1) := by decide +kernel
theorem dX5_cycle_104 : decode cX5_cycle 104 = .ok (.getfield 7, 3) := by decide +kernel
theorem dX5_cycle_107 : decode cX5_cycle 107 = .ok (.bipush 17, 2) := by decide +kernel
theorem dX5_cycle_109 : decode cX5_cycle 109 = .ok (.iaload, 1) := by decide +kernel
theorem dX5_cycle_110 : decode cX5_cycle 110 = .ok (.iload 4, 2) := by decide +kernel
theorem dX5_cycle_112 : decode cX5_cycle 112 = .ok (.if_icmp .ge 13, 3) := by decide +kernel
theorem dX5_cycle_115 : decode cX5_cycle 115 = .ok (.aload_n 0, 1) := by decide +kernel
theorem dX5_cycle_116 : decode cX5_cycle 116 = .ok (.getfield 7, 3) := by decide +kernel
theorem dX5_cycle_119 : decode cX5_cycle 119 = .ok (.bipush 17, 2) := by decide +kernel
theorem dX5_cycle_121 : decode cX5_cycle 121 = .ok (.iaload, 1) := by decide +kernel
theorem dX5_cycle_122 : decode cX5_cycle 122 = .ok (.goto 5, 3) := by decide +kernel
theorem dX5_cycle_125 : decode cX5_cycle 125 = .ok (.iload 4, 2) := by decide +kernel
theorem dX5_cycle_127 : decode cX5_cycle 127 = .ok (.istore 4, 2) := by decide +kernel
theorem dX5_cycle_129 : decode cX5_cycle 129 = .ok (.aload_n 0, 1) := by decide +kernel
theorem dX5_cycle_130 : decode cX5_cycle 130 = .ok (.getfield 7, 3) := by decide +kernel
theorem dX5_cycle_133 : decode cX5_cycle 133 = .ok (.bipush 17, 2) := by decide +kernel
theorem dX5_cycle_135 : decode cX5_cycle 135 = .ok (.iaload, 1) := by decide +kernel
theorem dX5_cycle_136 : decode cX5_cycle 136 = .ok (.iload 5, 2) := by decide +kernel
theorem dX5_cycle_138 : decode cX5_cycle 138 = .ok (.if_icmp .le 13, 3) := by decide +kernel
theorem dX5_cycle_141 : decode cX5_cycle 141 = .ok (.aload_n 0, 1) := by decide +kernel
theorem dX5_cycle_142 : decode cX5_cycle 142 = .ok (.getfield 7, 3) := by decide +kernel
theorem dX5_cycle_145 : decode cX5_cycle 145 = .ok (.bipush 17, 2) := by decide +kernel
theorem dX5_cycle_147 : decode cX5_cycle 147 = .ok (.iaload, 1) := by decide +kernel
theorem dX5_cycle_148 : decode cX5_cycle 148 = .ok (.goto 5, 3) := by decide +kernel
theorem dX5_cycle_151 : decode cX5_cycle 151 = .ok (.iload 5, 2) := by decide +kernel
theorem dX5_cycle_153 : decode cX5_cycle 153 = .ok (.istore 5, 2) := by decide +kernel
theorem dX5_cycle_155 : decode cX5_cycle 155 = .ok (.iinc 6 1, 3) := by decide +kernel
theorem dX5_cycle_158 : decode cX5_cycle 158 = .ok (.goto (-83), 3) := by decide +kernel
theorem dX5_cycle_161 : decode cX5_cycle 161 = .ok (.aload_n 0, 1) := by decide +kernel
theorem dX5_cycle_162 : decode cX5_cycle 162 = .ok (.getfield 7, 3) := by decide +kernel
theorem dX5_cycle_165 : decode cX5_cycle 165 = .ok (.bipush 22, 2) := by decide +kernel
theorem dX5_cycle_167 : decode cX5_cycle 167 = .ok (.iload_n 3, 1) := by decide +kernel
theorem dX5_cycle_168 : decode cX5_cycle 168 = .ok (.bipush 20, 2) := by decide +kernel
theorem dX5_cycle_170 : decode cX5_cycle 170 = .ok (.idiv, 1) := by decide +kernel
theorem dX5_cycle_171 : decode cX5_cycle 171 = .ok (.iastore, 1) := by decide +kernel
theorem dX5_cycle_172 : decode cX5_cycle 172 = .ok (.aload_n 0, 1) := by decide +kernel
theorem dX5_cycle_173 : decode cX5_cycle 173 = .ok (.getfield 7, 3) := by decide +kernel
theorem dX5_cycle_176 : decode cX5_cycle 176 = .ok (.bipush 23, 2) := by decide +kernel
theorem dX5_cycle_178 : decode cX5_cycle 178 = .ok (.iload 5, 2) := by decide +kernel
theorem dX5_cycle_180 : decode cX5_cycle 180 = .ok (.iload 4, 2) := by decide +kernel
theorem dX5_cycle_182 : decode cX5_cycle 182 = .ok (.isub, 1) := by decide +kernel
theorem dX5_cycle_183 : decode cX5_cycle 183 = .ok (.iastore, 1) := by decide +kernel
theorem dX5_cycle_184 : decode cX5_cycle 184 = .ok (.aload_n 0, 1) := by decide +kernel
theorem dX5_cycle_185 : decode cX5_cycle 185 = .ok (.getfield 7, 3) := by decide +kernel
theorem dX5_cycle_188 : decode cX5_cycle 188 = .ok (.bipush 27, 2) := by decide +kernel
theorem dX5_cycle_190 : decode cX5_cycle 190 = .ok (.aload_n 0, 1) := by decide +kernel
theorem dX5_cycle_191 : decode cX5_cycle 191 = .ok (.getfield 62, 3) := by decide +kernel
theorem dX5_cycle_194 : decode cX5_cycle 194 = .ok (.aload_n 0, 1) := by decide +kernel
theorem dX5_cycle_195 : decode cX5_cycle 195 = .ok (.getfield 7, 3) := by decide +kernel
theorem dX5_cycle_198 : decode cX5_cycle 198 = .ok (.bipush 27, 2) := by decide +kernel
theorem dX5_cycle_200 : decode cX5_cycle 200 = .ok (.iaload, 1) := by decide +kernel
theorem dX5_cycle_201 : decode cX5_cycle 201 = .ok (.if_icmp .le 10, 3) := by decide +kernel
theorem dX5_cycle_204 : decode cX5_cycle 204 = .ok (.aload_n 0, 1) := by decide +kernel
theorem dX5_cycle_205 : decode cX5_cycle 205 = .ok (.getfield 62, 3) := by decide +kernel
theorem dX5_cycle_208 : decode cX5_cycle 208 = .ok (.goto 10, 3) := by decide +kernel
theorem dX5_cycle_211 : decode cX5_cycle 211 = .ok (.aload_n 0, 1) := by decide +kernel
theorem dX5_cycle_212 : decode cX5_cycle 212 = .ok (.getfield 7, 3) := by decide +kernel
theorem dX5_cycle_215 : decode cX5_cycle 215 = .ok (.bipush 27, 2) := by decide +kernel
theorem dX5_cycle_217 : decode cX5_cycle 217 = .ok (.iaload, 1) := by decide +kernel
theorem dX5_cycle_218 : decode cX5_cycle 218 = .ok (.iastore, 1) := by decide +kernel
theorem dX5_cycle_219 : decode cX5_cycle 219 = .ok (.aload_n 0, 1) := by decide +kernel
theorem dX5_cycle_220 : decode cX5_cycle 220 = .ok (.getfield 7, 3) := by decide +kernel
theorem dX5_cycle_223 : decode cX5_cycle 223 = .ok (.bipush 24, 2) := by decide +kernel
theorem dX5_cycle_225 : decode cX5_cycle 225 = .ok (.dup2, 1) := by decide +kernel
theorem dX5_cycle_226 : decode cX5_cycle 226 = .ok (.iaload, 1) := by decide +kernel
theorem dX5_cycle_227 : decode cX5_cycle 227 = .ok (.iconst 1, 1) := by decide +kernel
theorem dX5_cycle_228 : decode cX5_cycle 228 = .ok (.iadd, 1) := by decide +kernel
theorem dX5_cycle_229 : decode cX5_cycle 229 = .ok (.iastore, 1) := by decide +kernel
theorem dX5_cycle_230 : decode cX5_cycle 230 = .ok (.aload_n 0, 1) := by decide +kernel
theorem dX5_cycle_231 : decode cX5_cycle 231 = .ok (.aload_n 0, 1) := by decide +kernel
theorem dX5_cycle_232 : decode cX5_cycle 232 = .ok (.getfield 7, 3) := by decide +kernel
theorem dX5_cycle_235 : decode cX5_cycle 235 = .ok (.bipush 25, 2) := by decide +kernel
theorem dX5_cycle_237 : decode cX5_cycle 237 = .ok (.iaload, 1) := by decide +kernel
theorem dX5_cycle_238 : decode cX5_cycle 238 = .ok (.iload_n 2, 1) := by decide +kernel
theorem dX5_cycle_239 : decode cX5_cycle 239 = .ok (.isub, 1) := by decide +kernel
theorem dX5_cycle_240 : decode cX5_cycle 240 = .ok (.invokevirtual 88, 3) := by decide +kernel
theorem dX5_cycle_243 : decode cX5_cycle 243 = .ok (.return_, 1) := by decide +kernel
set_option maxRecDepth 20000 in
theorem ggX5_begin_X5_within : GoodIn wsX5_begin wsX5_within := goodIn_r _ [6] (by decide +kernel) (by decide +kernel)
set_option maxRecDepth 20000 in
theorem gX5_begin_X5_within : GoodIn wsX5_begin (va_wsS RX5 91 yX5_within wsX5_within) := goodIn_app (goodIn_of _ (by decide +kernel)) ggX5_begin_X5_within
set_option maxRecDepth 20000 in
theorem ggX5_begin_X5_fresh : GoodIn wsX5_begin wsX5_fresh := goodIn_r _ [10, 2, 11, 12, 5, 13, 14, 15, 16, 17, 18, 19, 20, 21, 22, 23, 24, 25, 26, 27, 28] (by decide +kernel) (by decide +kernel)
set_option maxRecDepth 20000 in
theorem gX5_begin_X5_fresh : GoodIn wsX5_begin (wsV RX5 22 RX5 yX5_fresh wsX5_fresh) := goodIn_app (goodIn_of _ (by decide +kernel)) ggX5_begin_X5_fresh
theorem dX5_begin_0 : decode cX5_begin 0 = .ok (.aload_n 0, 1) := by decide +kernel
theorem dX5_begin_1 : decode cX5_begin 1 = .ok (.iload_n 1, 1) := by decide +kernel
theorem dX5_begin_2 : decode cX5_begin 2 = .ok (.iconst 1, 1) := by decide +kernel
theorem dX5_begin_3 : decode cX5_begin 3 = .ok (.iconst 4, 1) := by decide +kernel
theorem dX5_begin_4 : decode cX5_begin 4 = .ok (.invokestatic 91, 3) := by decide +kernel
theorem dX5_begin_7 : decode cX5_begin 7 = .ok (.ifCond .eq 7, 3) := by decide +kernel
theorem dX5_begin_10 : decode cX5_begin 10 = .ok (.iconst 0, 1) := by decide +kernel
theorem dX5_begin_11 : decode cX5_begin 11 = .ok (.goto 4, 3) := by decide +kernel
theorem dX5_begin_14 : decode cX5_begin 14 = .ok (.iconst 1, 1) := by decide +kernel
theorem dX5_begin_15 : decode cX5_begin 15 = .ok (.putfield 26, 3) := by decide +kernel
theorem dX5_begin_18 : decode cX5_begin 18 = .ok (.aload_n 0, 1) := by decide +kernel
theorem dX5_begin_19 : decode cX5_begin 19 = .ok (.getfield 26, 3) := by decide +kernel
theorem dX5_begin_22 : decode cX5_begin 22 = .ok (.ifCond .le 5, 3) := by decide +kernel
theorem dX5_begin_25 : decode cX5_begin 25 = .ok (.iconst 0, 1) := by decide +kernel
theorem dX5_begin_26 : decode cX5_begin 26 = .ok (.ireturn, 1) := by decide +kernel
theorem dX5_begin_27 : decode cX5_begin 27 = .ok (.aload_n 0, 1) := by decide +kernel
theorem dX5_begin_28 : decode cX5_begin 28 = .ok (.getfield 7, 3) := by decide +kernel
theorem dX5_begin_31 : decode cX5_begin 31 = .ok (.bipush 15, 2) := by decide +kernel
theorem dX5_begin_33 : decode cX5_begin 33 = .ok (.iaload, 1) := by decide +kernel
theorem dX5_begin_34 : decode cX5_begin 34 = .ok (.istore_n 2, 1) := by decide +kernel
theorem dX5_begin_35 : decode cX5_begin 35 = .ok (.aload_n 0, 1) := by decide +kernel
theorem dX5_begin_36 : decode cX5_begin 36 = .ok (.iload_n 1, 1) := by decide +kernel
theorem dX5_begin_37 : decode cX5_begin 37 = .ok (.invokevirtual 22, 3) := by decide +kernel
theorem dX5_begin_40 : decode cX5_begin 40 = .ok (.iload_n 2, 1) := by decide +kernel
theorem dX5_begin_41 : decode cX5_begin 41 = .ok (.ireturn, 1) := by decide +kernel
set_option maxRecDepth 20000 in
theorem ggX5_isSetting_X5_within : GoodIn wsX5_isSetting wsX5_within := goodIn_r _ [4] (by decide +kernel) (by decide +kernel)
set_option maxRecDepth 20000 in
theorem gX5_isSetting_X5_within : GoodIn wsX5_isSetting (va_wsS RX5 91 yX5_within wsX5_within) := goodIn_app (goodIn_of _ (by decide +kernel)) ggX5_isSetting_X5_within
theorem dX5_isSetting_0 : decode cX5_isSetting 0 = .ok (.iload_n 0, 1) := by decide +kernel
theorem dX5_isSetting_1 : decode cX5_isSetting 1 = .ok (.iconst 0, 1) := by decide +kernel
theorem dX5_isSetting_2 : decode cX5_isSetting 2 = .ok (.bipush 14, 2) := by decide +kernel
theorem dX5_isSetting_4 : decode cX5_isSetting 4 = .ok (.invokestatic 91, 3) := by decide +kernel
theorem dX5_isSetting_7 : decode cX5_isSetting 7 = .ok (.ireturn, 1) := by decide +kernel
set_option maxRecDepth 20000 in
theorem ggX5_set_X5_isSetting : GoodIn wsX5_set wsX5_isSetting := goodIn_r _ [6, 7, 8, 5, 9] (by decide +kernel) (by decide +kernel)
set_option maxRecDepth 20000 in
theorem gX5_set_X5_isSetting : GoodIn wsX5_set (va_wsS RX5 95 yX5_isSetting wsX5_isSetting) := goodIn_app (goodIn_of _ (by decide +kernel)) ggX5_set_X5_isSetting
set_option maxRecDepth 20000 in
theorem ggX5_set_X5_lowest : GoodIn wsX5_set wsX5_lowest := goodIn_r _ [12] (by decide +kernel) (by decide +kernel)
set_option maxRecDepth 20000 in
theorem gX5_set_X5_lowest : GoodIn wsX5_set (va_wsS RX5 99 yX5_lowest wsX5_lowest) := goodIn_app (goodIn_of _ (by decide +kernel)) ggX5_set_X5_lowest
set_option maxRecDepth 20000 in
theorem ggX5_set_X5_highest : GoodIn wsX5_set wsX5_highest := goodIn_r _ [15, 16] (by decide +kernel) (by decide +kernel)
set_option maxRecDepth 20000 in
theorem gX5_set_X5_highest : GoodIn wsX5_set (va_wsS RX5 102 yX5_highest wsX5_highest) := goodIn_app (goodIn_of _ (by decide +kernel)) ggX5_set_X5_highest
set_option maxRecDepth 20000 in
theorem ggX5_set_X5_within : GoodIn wsX5_set wsX5_within := goodIn_r _ [9] (by decide +kernel) (by decide +kernel)
set_option maxRecDepth 20000 in
theorem gX5_set_X5_within : GoodIn wsX5_set (va_wsS RX5 91 yX5_within wsX5_within) := goodIn_app (goodIn_of _ (by decide +kernel)) ggX5_set_X5_within
theorem dX5_set_0 : decode cX5_set 0 = .ok (.aload_n 0, 1) := by decide +kernel
theorem dX5_set_1 : decode cX5_set 1 = .ok (.iload_n 1, 1) := by decide +kernel
theorem dX5_set_2 : decode cX5_set 2 = .ok (.invokestatic 95, 3) := by decide +kernel
theorem dX5_set_5 : decode cX5_set 5 = .ok (.ifCond .ne 7, 3) := by decide +kernel
theorem dX5_set_8 : decode cX5_set 8 = .ok (.iconst 1, 1) := by decide +kernel
theorem dX5_set_9 : decode cX5_set 9 = .ok (.goto 23, 3) := by decide +kernel
theorem dX5_set_12 : decode cX5_set 12 = .ok (.iload_n 2, 1) := by decide +kernel
theorem dX5_set_13 : decode cX5_set 13 = .ok (.iload_n 1, 1) := by decide +kernel
theorem dX5_set_14 : decode cX5_set 14 = .ok (.invokestatic 99, 3) := by decide +kernel
theorem dX5_set_17 : decode cX5_set 17 = .ok (.iload_n 1, 1) := by decide +kernel
theorem dX5_set_18 : decode cX5_set 18 = .ok (.invokestatic 102, 3) := by decide +kernel
theorem dX5_set_21 : decode cX5_set 21 = .ok (.invokestatic 91, 3) := by decide +kernel
theorem dX5_set_24 : decode cX5_set 24 = .ok (.ifCond .eq 7, 3) := by decide +kernel
theorem dX5_set_27 : decode cX5_set 27 = .ok (.iconst 0, 1) := by decide +kernel
theorem dX5_set_28 : decode cX5_set 28 = .ok (.goto 4, 3) := by decide +kernel
theorem dX5_set_31 : decode cX5_set 31 = .ok (.iconst 2, 1) := by decide +kernel
theorem dX5_set_32 : decode cX5_set 32 = .ok (.putfield 26, 3) := by decide +kernel
theorem dX5_set_35 : decode cX5_set 35 = .ok (.aload_n 0, 1) := by decide +kernel
theorem dX5_set_36 : decode cX5_set 36 = .ok (.getfield 26, 3) := by decide +kernel
theorem dX5_set_39 : decode cX5_set 39 = .ok (.ifCond .le 5, 3) := by decide +kernel
theorem dX5_set_42 : decode cX5_set 42 = .ok (.iconst 0, 1) := by decide +kernel
theorem dX5_set_43 : decode cX5_set 43 = .ok (.ireturn, 1) := by decide +kernel
theorem dX5_set_44 : decode cX5_set 44 = .ok (.aload_n 0, 1) := by decide +kernel
theorem dX5_set_45 : decode cX5_set 45 = .ok (.getfield 7, 3) := by decide +kernel
theorem dX5_set_48 : decode cX5_set 48 = .ok (.iload_n 1, 1) := by decide +kernel
theorem dX5_set_49 : decode cX5_set 49 = .ok (.iaload, 1) := by decide +kernel
theorem dX5_set_50 : decode cX5_set 50 = .ok (.istore_n 3, 1) := by decide +kernel
theorem dX5_set_51 : decode cX5_set 51 = .ok (.aload_n 0, 1) := by decide +kernel
theorem dX5_set_52 : decode cX5_set 52 = .ok (.getfield 7, 3) := by decide +kernel
theorem dX5_set_55 : decode cX5_set 55 = .ok (.iload_n 1, 1) := by decide +kernel
theorem dX5_set_56 : decode cX5_set 56 = .ok (.iload_n 2, 1) := by decide +kernel
theorem dX5_set_57 : decode cX5_set 57 = .ok (.iastore, 1) := by decide +kernel
theorem dX5_set_58 : decode cX5_set 58 = .ok (.iload_n 3, 1) := by decide +kernel
theorem dX5_set_59 : decode cX5_set 59 = .ok (.ireturn, 1) := by decide +kernel
set_option maxRecDepth 20000 in
theorem ggX5_setting_X5_isSetting : GoodIn wsX5_setting wsX5_isSetting := goodIn_r _ [6, 7, 8, 5, 9] (by decide +kernel) (by decide +kernel)
set_option maxRecDepth 20000 in
theorem gX5_setting_X5_isSetting : GoodIn wsX5_setting (va_wsS RX5 95 yX5_isSetting wsX5_isSetting) := goodIn_app (goodIn_of _ (by decide +kernel)) ggX5_setting_X5_isSetting
theorem dX5_setting_0 : decode cX5_setting 0 = .ok (.aload_n 0, 1) := by decide +kernel
theorem dX5_setting_1 : decode cX5_setting 1 = .ok (.iload_n 1, 1) := by decide +kernel
theorem dX5_setting_2 : decode cX5_setting 2 = .ok (.invokestatic 95, 3) := by decide +kernel
theorem dX5_setting_5 : decode cX5_setting 5 = .ok (.ifCond .eq 7, 3) := by decide +kernel
theorem dX5_setting_8 : decode cX5_setting 8 = .ok (.iconst 0, 1) := by decide +kernel
theorem dX5_setting_9 : decode cX5_setting 9 = .ok (.goto 4, 3) := by decide +kernel
theorem dX5_setting_12 : decode cX5_setting 12 = .ok (.iconst 1, 1) := by decide +kernel
theorem dX5_setting_13 : decode cX5_setting 13 = .ok (.putfield 26, 3) := by decide +kernel
theorem dX5_setting_16 : decode cX5_setting 16 = .ok (.aload_n 0, 1) := by decide +kernel
theorem dX5_setting_17 : decode cX5_setting 17 = .ok (.getfield 26, 3) := by decide +kernel
theorem dX5_setting_20 : decode cX5_setting 20 = .ok (.ifCond .le 7, 3) := by decide +kernel
theorem dX5_setting_23 : decode cX5_setting 23 = .ok (.iconst 0, 1) := by decide +kernel
theorem dX5_setting_24 : decode cX5_setting 24 = .ok (.goto 9, 3) := by decide +kernel
theorem dX5_setting_27 : decode cX5_setting 27 = .ok (.aload_n 0, 1) := by decide +kernel
theorem dX5_setting_28 : decode cX5_setting 28 = .ok (.getfield 7, 3) := by decide +kernel
theorem dX5_setting_31 : decode cX5_setting 31 = .ok (.iload_n 1, 1) := by decide +kernel
theorem dX5_setting_32 : decode cX5_setting 32 = .ok (.iaload, 1) := by decide +kernel
theorem dX5_setting_33 : decode cX5_setting 33 = .ok (.ireturn, 1) := by decide +kernel
set_option maxRecDepth 20000 in
theorem ggX5_start_X5_runs : GoodIn wsX5_start wsX5_runs := goodIn_r _ [7, 2, 11, 12, 13, 14, 15, 16, 17, 18, 19, 20, 21, 22, 23, 24, 25] (by decide +kernel) (by decide +kernel)
set_option maxRecDepth 20000 in
theorem gX5_start_X5_runs : GoodIn wsX5_start (wsV RX5 51 RX5 yX5_runs wsX5_runs) := goodIn_app (goodIn_of _ (by decide +kernel)) ggX5_start_X5_runs
set_option maxRecDepth 20000 in
theorem ggX5_start_X5_at : GoodIn wsX5_start wsX5_at := goodIn_r _ [10] (by decide +kernel) (by decide +kernel)
set_option maxRecDepth 20000 in
theorem gX5_start_X5_at : GoodIn wsX5_start (va_wsS RX5 35 yX5_at wsX5_at) := goodIn_app (goodIn_of _ (by decide +kernel)) ggX5_start_X5_at
theorem dX5_start_0 : decode cX5_start 0 = .ok (.aload_n 0, 1) := by decide +kernel
theorem dX5_start_1 : decode cX5_start 1 = .ok (.aload_n 0, 1) := by decide +kernel
theorem dX5_start_2 : decode cX5_start 2 = .ok (.invokevirtual 51, 3) := by decide +kernel
theorem dX5_start_5 : decode cX5_start 5 = .ok (.ifCond .eq 7, 3) := by decide +kernel
theorem dX5_start_8 : decode cX5_start 8 = .ok (.iconst 1, 1) := by decide +kernel
theorem dX5_start_9 : decode cX5_start 9 = .ok (.goto 4, 3) := by decide +kernel
theorem dX5_start_12 : decode cX5_start 12 = .ok (.iconst 0, 1) := by decide +kernel
theorem dX5_start_13 : decode cX5_start 13 = .ok (.putfield 26, 3) := by decide +kernel
theorem dX5_start_16 : decode cX5_start 16 = .ok (.aload_n 0, 1) := by decide +kernel
theorem dX5_start_17 : decode cX5_start 17 = .ok (.getfield 26, 3) := by decide +kernel
theorem dX5_start_20 : decode cX5_start 20 = .ok (.ifCond .le 5, 3) := by decide +kernel
theorem dX5_start_23 : decode cX5_start 23 = .ok (.iconst 0, 1) := by decide +kernel
theorem dX5_start_24 : decode cX5_start 24 = .ok (.ireturn, 1) := by decide +kernel
theorem dX5_start_25 : decode cX5_start 25 = .ok (.aload_n 0, 1) := by decide +kernel
theorem dX5_start_26 : decode cX5_start 26 = .ok (.getfield 7, 3) := by decide +kernel
theorem dX5_start_29 : decode cX5_start 29 = .ok (.bipush 20, 2) := by decide +kernel
theorem dX5_start_31 : decode cX5_start 31 = .ok (.iconst 1, 1) := by decide +kernel
theorem dX5_start_32 : decode cX5_start 32 = .ok (.iastore, 1) := by decide +kernel
theorem dX5_start_33 : decode cX5_start 33 = .ok (.aload_n 0, 1) := by decide +kernel
theorem dX5_start_34 : decode cX5_start 34 = .ok (.getfield 7, 3) := by decide +kernel
theorem dX5_start_37 : decode cX5_start 37 = .ok (.bipush 18, 2) := by decide +kernel
theorem dX5_start_39 : decode cX5_start 39 = .ok (.aload_n 0, 1) := by decide +kernel
theorem dX5_start_40 : decode cX5_start 40 = .ok (.getfield 7, 3) := by decide +kernel
theorem dX5_start_43 : decode cX5_start 43 = .ok (.bipush 17, 2) := by decide +kernel
theorem dX5_start_45 : decode cX5_start 45 = .ok (.iaload, 1) := by decide +kernel
theorem dX5_start_46 : decode cX5_start 46 = .ok (.iastore, 1) := by decide +kernel
theorem dX5_start_47 : decode cX5_start 47 = .ok (.aload_n 0, 1) := by decide +kernel
theorem dX5_start_48 : decode cX5_start 48 = .ok (.getfield 7, 3) := by decide +kernel
theorem dX5_start_51 : decode cX5_start 51 = .ok (.bipush 19, 2) := by decide +kernel
theorem dX5_start_53 : decode cX5_start 53 = .ok (.iconst 0, 1) := by decide +kernel
theorem dX5_start_54 : decode cX5_start 54 = .ok (.iastore, 1) := by decide +kernel
theorem dX5_start_55 : decode cX5_start 55 = .ok (.aload_n 0, 1) := by decide +kernel
theorem dX5_start_56 : decode cX5_start 56 = .ok (.getfield 7, 3) := by decide +kernel
theorem dX5_start_59 : decode cX5_start 59 = .ok (.bipush 29, 2) := by decide +kernel
theorem dX5_start_61 : decode cX5_start 61 = .ok (.iconst 0, 1) := by decide +kernel
theorem dX5_start_62 : decode cX5_start 62 = .ok (.iastore, 1) := by decide +kernel
theorem dX5_start_63 : decode cX5_start 63 = .ok (.aload_n 0, 1) := by decide +kernel
theorem dX5_start_64 : decode cX5_start 64 = .ok (.getfield 7, 3) := by decide +kernel
theorem dX5_start_67 : decode cX5_start 67 = .ok (.bipush 30, 2) := by decide +kernel
theorem dX5_start_69 : decode cX5_start 69 = .ok (.iconst 0, 1) := by decide +kernel
theorem dX5_start_70 : decode cX5_start 70 = .ok (.iastore, 1) := by decide +kernel
theorem dX5_start_71 : decode cX5_start 71 = .ok (.aload_n 0, 1) := by decide +kernel
theorem dX5_start_72 : decode cX5_start 72 = .ok (.getfield 7, 3) := by decide +kernel
theorem dX5_start_75 : decode cX5_start 75 = .ok (.bipush 16, 2) := by decide +kernel
theorem dX5_start_77 : decode cX5_start 77 = .ok (.aload_n 0, 1) := by decide +kernel
theorem dX5_start_78 : decode cX5_start 78 = .ok (.getfield 7, 3) := by decide +kernel
theorem dX5_start_81 : decode cX5_start 81 = .ok (.bipush 15, 2) := by decide +kernel
theorem dX5_start_83 : decode cX5_start 83 = .ok (.iaload, 1) := by decide +kernel
theorem dX5_start_84 : decode cX5_start 84 = .ok (.iastore, 1) := by decide +kernel
theorem dX5_start_85 : decode cX5_start 85 = .ok (.iconst 0, 1) := by decide +kernel
theorem dX5_start_86 : decode cX5_start 86 = .ok (.istore_n 1, 1) := by decide +kernel
theorem dX5_start_87 : decode cX5_start 87 = .ok (.iload_n 1, 1) := by decide +kernel
theorem dX5_start_88 : decode cX5_start 88 = .ok (.aload_n 0, 1) := by decide +kernel
theorem dX5_start_89 : decode cX5_start 89 = .ok (.getfield 7, 3) := by decide +kernel
theorem dX5_start_92 : decode cX5_start 92 = .ok (.bipush 15, 2) := by decide +kernel
theorem dX5_start_94 : decode cX5_start 94 = .ok (.iaload, 1) := by decide +kernel
theorem dX5_start_95 : decode cX5_start 95 = .ok (.if_icmp .ge 20, 3) := by decide +kernel
theorem dX5_start_98 : decode cX5_start 98 = .ok (.aload_n 0, 1) := by decide +kernel
theorem dX5_start_99 : decode cX5_start 99 = .ok (.getfield 7, 3) := by decide +kernel
theorem dX5_start_102 : decode cX5_start 102 = .ok (.iload_n 1, 1) := by decide +kernel
theorem dX5_start_103 : decode cX5_start 103 = .ok (.iconst 2, 1) := by decide +kernel
theorem dX5_start_104 : decode cX5_start 104 = .ok (.invokestatic 35, 3) := by decide +kernel
theorem dX5_start_107 : decode cX5_start 107 = .ok (.iconst 0, 1) := by decide +kernel
theorem dX5_start_108 : decode cX5_start 108 = .ok (.iastore, 1) := by decide +kernel
theorem dX5_start_109 : decode cX5_start 109 = .ok (.iinc 1 1, 3) := by decide +kernel
theorem dX5_start_112 : decode cX5_start 112 = .ok (.goto (-25), 3) := by decide +kernel
theorem dX5_start_115 : decode cX5_start 115 = .ok (.aload_n 0, 1) := by decide +kernel
theorem dX5_start_116 : decode cX5_start 116 = .ok (.getfield 7, 3) := by decide +kernel
theorem dX5_start_119 : decode cX5_start 119 = .ok (.bipush 17, 2) := by decide +kernel
theorem dX5_start_121 : decode cX5_start 121 = .ok (.iaload, 1) := by decide +kernel
theorem dX5_start_122 : decode cX5_start 122 = .ok (.ireturn, 1) := by decide +kernel
set_option maxRecDepth 20000 in
theorem ggX5_stop_X5_stopTo : GoodIn wsX5_stop wsX5_stopTo := goodIn_r _ [7, 2, 8, 9, 6, 10, 11, 12, 13, 14, 15, 16, 17, 18, 19, 20, 21, 22, 23, 24, 25] (by decide +kernel) (by decide +kernel)
set_option maxRecDepth 20000 in
theorem gX5_stop_X5_stopTo : GoodIn wsX5_stop (wsV RX5 66 RX5 yX5_stopTo wsX5_stopTo) := goodIn_app (goodIn_of _ (by decide +kernel)) ggX5_stop_X5_stopTo
theorem dX5_stop_0 : decode cX5_stop 0 = .ok (.aload_n 0, 1) := by decide +kernel
theorem dX5_stop_1 : decode cX5_stop 1 = .ok (.iconst 0, 1) := by decide +kernel
theorem dX5_stop_2 : decode cX5_stop 2 = .ok (.putfield 26, 3) := by decide +kernel
theorem dX5_stop_5 : decode cX5_stop 5 = .ok (.aload_n 0, 1) := by decide +kernel
theorem dX5_stop_6 : decode cX5_stop 6 = .ok (.getfield 7, 3) := by decide +kernel
theorem dX5_stop_9 : decode cX5_stop 9 = .ok (.bipush 20, 2) := by decide +kernel
theorem dX5_stop_11 : decode cX5_stop 11 = .ok (.iaload, 1) := by decide +kernel
theorem dX5_stop_12 : decode cX5_stop 12 = .ok (.istore_n 1, 1) := by decide +kernel
theorem dX5_stop_13 : decode cX5_stop 13 = .ok (.aload_n 0, 1) := by decide +kernel
theorem dX5_stop_14 : decode cX5_stop 14 = .ok (.iconst 0, 1) := by decide +kernel
theorem dX5_stop_15 : decode cX5_stop 15 = .ok (.invokevirtual 66, 3) := by decide +kernel
theorem dX5_stop_18 : decode cX5_stop 18 = .ok (.iload_n 1, 1) := by decide +kernel
theorem dX5_stop_19 : decode cX5_stop 19 = .ok (.ireturn, 1) := by decide +kernel
set_option maxRecDepth 20000 in
theorem ggX5_run_X5_within : GoodIn wsX5_run wsX5_within := goodIn_r _ [7] (by decide +kernel) (by decide +kernel)
set_option maxRecDepth 20000 in
theorem gX5_run_X5_within : GoodIn wsX5_run (va_wsS RX5 91 yX5_within wsX5_within) := goodIn_app (goodIn_of _ (by decide +kernel)) ggX5_run_X5_within
set_option maxRecDepth 20000 in
theorem ggX5_run_X5_layExtremes : GoodIn wsX5_run wsX5_layExtremes := goodIn_r _ [11, 12, 13, 14, 15, 72, 73, 74, 75, 76, 77, 78, 79, 80, 81, 82, 83, 84, 85, 86] (by decide +kernel) (by decide +kernel)
set_option maxRecDepth 20000 in
theorem gX5_run_X5_layExtremes : GoodIn wsX5_run (wsV RX5 105 RX5 yX5_layExtremes wsX5_layExtremes) := goodIn_app (goodIn_of _ (by decide +kernel)) ggX5_run_X5_layExtremes
set_option maxRecDepth 20000 in
theorem ggX5_run_X5_cycle : GoodIn wsX5_run wsX5_cycle := goodIn_r _ [19, 1, 12, 15, 20, 21, 22, 6, 23, 24, 25, 26, 27, 28, 29, 30, 31, 32, 33, 34, 35, 36, 37, 38, 39, 2, 40, 41, 42, 43, 44, 45, 46, 47, 48, 49, 50, 51, 52, 53, 54, 55, 13, 14, 56, 57, 58, 59, 60, 61, 62, 63, 64, 65, 66, 67, 68, 69, 70, 71, 72, 73, 74, 75, 76, 77, 78, 79, 80, 81, 82, 83, 84, 85, 86] (by decide +kernel) (by decide +kernel)
set_option maxRecDepth 20000 in
theorem gX5_run_X5_cycle : GoodIn wsX5_run (wsV RX5 108 RX5 yX5_cycle wsX5_cycle) := goodIn_app (goodIn_of _ (by decide +kernel)) ggX5_run_X5_cycle
theorem dX5_run_0 : decode cX5_run 0 = .ok (.aload_n 0, 1) := by decide +kernel
theorem dX5_run_1 : decode cX5_run 1 = .ok (.iload_n 1, 1) := by decide +kernel
theorem dX5_run_2 : decode cX5_run 2 = .ok (.iconst 1, 1) := by decide +kernel
theorem dX5_run_3 : decode cX5_run 3 = .ok (.sipush 200, 3) := by decide +kernel
theorem dX5_run_6 : decode cX5_run 6 = .ok (.invokestatic 91, 3) := by decide +kernel
theorem dX5_run_9 : decode cX5_run 9 = .ok (.ifCond .ne 7, 3) := by decide +kernel
theorem dX5_run_12 : decode cX5_run 12 = .ok (.iconst 1, 1) := by decide +kernel
theorem dX5_run_13 : decode cX5_run 13 = .ok (.goto 22, 3) := by decide +kernel
theorem dX5_run_16 : decode cX5_run 16 = .ok (.aload_n 0, 1) := by decide +kernel
theorem dX5_run_17 : decode cX5_run 17 = .ok (.getfield 7, 3) := by decide +kernel
theorem dX5_run_20 : decode cX5_run 20 = .ok (.bipush 24, 2) := by decide +kernel
theorem dX5_run_22 : decode cX5_run 22 = .ok (.iaload, 1) := by decide +kernel
theorem dX5_run_23 : decode cX5_run 23 = .ok (.iload_n 1, 1) := by decide +kernel
theorem dX5_run_24 : decode cX5_run 24 = .ok (.iadd, 1) := by decide +kernel
theorem dX5_run_25 : decode cX5_run 25 = .ok (.ldc 40, 2) := by decide +kernel
theorem dX5_run_27 : decode cX5_run 27 = .ok (.if_icmp .le 7, 3) := by decide +kernel
theorem dX5_run_30 : decode cX5_run 30 = .ok (.iconst 2, 1) := by decide +kernel
theorem dX5_run_31 : decode cX5_run 31 = .ok (.goto 4, 3) := by decide +kernel
theorem dX5_run_34 : decode cX5_run 34 = .ok (.iconst 0, 1) := by decide +kernel
theorem dX5_run_35 : decode cX5_run 35 = .ok (.putfield 26, 3) := by decide +kernel
theorem dX5_run_38 : decode cX5_run 38 = .ok (.aload_n 0, 1) := by decide +kernel
theorem dX5_run_39 : decode cX5_run 39 = .ok (.getfield 26, 3) := by decide +kernel
theorem dX5_run_42 : decode cX5_run 42 = .ok (.ifCond .le 5, 3) := by decide +kernel
theorem dX5_run_45 : decode cX5_run 45 = .ok (.iconst 0, 1) := by decide +kernel
theorem dX5_run_46 : decode cX5_run 46 = .ok (.ireturn, 1) := by decide +kernel
theorem dX5_run_47 : decode cX5_run 47 = .ok (.aload_n 0, 1) := by decide +kernel
theorem dX5_run_48 : decode cX5_run 48 = .ok (.invokevirtual 105, 3) := by decide +kernel
theorem dX5_run_51 : decode cX5_run 51 = .ok (.iconst 0, 1) := by decide +kernel
theorem dX5_run_52 : decode cX5_run 52 = .ok (.istore_n 2, 1) := by decide +kernel
theorem dX5_run_53 : decode cX5_run 53 = .ok (.iload_n 2, 1) := by decide +kernel
theorem dX5_run_54 : decode cX5_run 54 = .ok (.iload_n 1, 1) := by decide +kernel
theorem dX5_run_55 : decode cX5_run 55 = .ok (.if_icmp .ge 13, 3) := by decide +kernel
theorem dX5_run_58 : decode cX5_run 58 = .ok (.aload_n 0, 1) := by decide +kernel
theorem dX5_run_59 : decode cX5_run 59 = .ok (.invokevirtual 108, 3) := by decide +kernel
theorem dX5_run_62 : decode cX5_run 62 = .ok (.iinc 2 1, 3) := by decide +kernel
theorem dX5_run_65 : decode cX5_run 65 = .ok (.goto (-12), 3) := by decide +kernel
theorem dX5_run_68 : decode cX5_run 68 = .ok (.aload_n 0, 1) := by decide +kernel
theorem dX5_run_69 : decode cX5_run 69 = .ok (.getfield 7, 3) := by decide +kernel
theorem dX5_run_72 : decode cX5_run 72 = .ok (.bipush 17, 2) := by decide +kernel
theorem dX5_run_74 : decode cX5_run 74 = .ok (.iaload, 1) := by decide +kernel
theorem dX5_run_75 : decode cX5_run 75 = .ok (.ireturn, 1) := by decide +kernel
set_option maxRecDepth 20000 in
theorem ggX5_append_X5_within : GoodIn wsX5_append wsX5_within := goodIn_r _ [7] (by decide +kernel) (by decide +kernel)
set_option maxRecDepth 20000 in
theorem gX5_append_X5_within : GoodIn wsX5_append (va_wsS RX5 91 yX5_within wsX5_within) := goodIn_app (goodIn_of _ (by decide +kernel)) ggX5_append_X5_within
theorem dX5_append_0 : decode cX5_append 0 = .ok (.aload_n 0, 1) := by decide +kernel
theorem dX5_append_1 : decode cX5_append 1 = .ok (.iload_n 1, 1) := by decide +kernel
theorem dX5_append_2 : decode cX5_append 2 = .ok (.bipush 33, 2) := by decide +kernel
theorem dX5_append_4 : decode cX5_append 4 = .ok (.bipush 126, 2) := by decide +kernel
theorem dX5_append_6 : decode cX5_append 6 = .ok (.invokestatic 91, 3) := by decide +kernel
theorem dX5_append_9 : decode cX5_append 9 = .ok (.ifCond .ne 7, 3) := by decide +kernel
theorem dX5_append_12 : decode cX5_append 12 = .ok (.iconst 1, 1) := by decide +kernel
theorem dX5_append_13 : decode cX5_append 13 = .ok (.goto 17, 3) := by decide +kernel
theorem dX5_append_16 : decode cX5_append 16 = .ok (.aload_n 0, 1) := by decide +kernel
theorem dX5_append_17 : decode cX5_append 17 = .ok (.getfield 111, 3) := by decide +kernel
theorem dX5_append_20 : decode cX5_append 20 = .ok (.bipush 50, 2) := by decide +kernel
theorem dX5_append_22 : decode cX5_append 22 = .ok (.if_icmp .ne 7, 3) := by decide +kernel
theorem dX5_append_25 : decode cX5_append 25 = .ok (.iconst 2, 1) := by decide +kernel
theorem dX5_append_26 : decode cX5_append 26 = .ok (.goto 4, 3) := by decide +kernel
theorem dX5_append_29 : decode cX5_append 29 = .ok (.iconst 0, 1) := by decide +kernel
theorem dX5_append_30 : decode cX5_append 30 = .ok (.putfield 26, 3) := by decide +kernel
theorem dX5_append_33 : decode cX5_append 33 = .ok (.aload_n 0, 1) := by decide +kernel
theorem dX5_append_34 : decode cX5_append 34 = .ok (.getfield 26, 3) := by decide +kernel
theorem dX5_append_37 : decode cX5_append 37 = .ok (.ifCond .le 5, 3) := by decide +kernel
theorem dX5_append_40 : decode cX5_append 40 = .ok (.iconst 0, 1) := by decide +kernel
theorem dX5_append_41 : decode cX5_append 41 = .ok (.ireturn, 1) := by decide +kernel
theorem dX5_append_42 : decode cX5_append 42 = .ok (.aload_n 0, 1) := by decide +kernel
theorem dX5_append_43 : decode cX5_append 43 = .ok (.getfield 16, 3) := by decide +kernel
theorem dX5_append_46 : decode cX5_append 46 = .ok (.aload_n 0, 1) := by decide +kernel
theorem dX5_append_47 : decode cX5_append 47 = .ok (.getfield 111, 3) := by decide +kernel
theorem dX5_append_50 : decode cX5_append 50 = .ok (.iload_n 1, 1) := by decide +kernel
theorem dX5_append_51 : decode cX5_append 51 = .ok (.iastore, 1) := by decide +kernel
theorem dX5_append_52 : decode cX5_append 52 = .ok (.aload_n 0, 1) := by decide +kernel
theorem dX5_append_53 : decode cX5_append 53 = .ok (.dup, 1) := by decide +kernel
theorem dX5_append_54 : decode cX5_append 54 = .ok (.getfield 111, 3) := by decide +kernel
theorem dX5_append_57 : decode cX5_append 57 = .ok (.iconst 1, 1) := by decide +kernel
theorem dX5_append_58 : decode cX5_append 58 = .ok (.iadd, 1) := by decide +kernel
theorem dX5_append_59 : decode cX5_append 59 = .ok (.putfield 111, 3) := by decide +kernel
theorem dX5_append_62 : decode cX5_append 62 = .ok (.aload_n 0, 1) := by decide +kernel
theorem dX5_append_63 : decode cX5_append 63 = .ok (.getfield 111, 3) := by decide +kernel
theorem dX5_append_66 : decode cX5_append 66 = .ok (.ireturn, 1) := by decide +kernel
theorem dX5_clearBuffer_0 : decode cX5_clearBuffer 0 = .ok (.aload_n 0, 1) := by decide +kernel
theorem dX5_clearBuffer_1 : decode cX5_clearBuffer 1 = .ok (.iconst 0, 1) := by decide +kernel
theorem dX5_clearBuffer_2 : decode cX5_clearBuffer 2 = .ok (.putfield 26, 3) := by decide +kernel
theorem dX5_clearBuffer_5 : decode cX5_clearBuffer 5 = .ok (.aload_n 0, 1) := by decide +kernel
theorem dX5_clearBuffer_6 : decode cX5_clearBuffer 6 = .ok (.getfield 111, 3) := by decide +kernel
theorem dX5_clearBuffer_9 : decode cX5_clearBuffer 9 = .ok (.istore_n 1, 1) := by decide +kernel
theorem dX5_clearBuffer_10 : decode cX5_clearBuffer 10 = .ok (.aload_n 0, 1) := by decide +kernel
theorem dX5_clearBuffer_11 : decode cX5_clearBuffer 11 = .ok (.iconst 0, 1) := by decide +kernel
theorem dX5_clearBuffer_12 : decode cX5_clearBuffer 12 = .ok (.putfield 111, 3) := by decide +kernel
theorem dX5_clearBuffer_15 : decode cX5_clearBuffer 15 = .ok (.iload_n 1, 1) := by decide +kernel
theorem dX5_clearBuffer_16 : decode cX5_clearBuffer 16 = .ok (.ireturn, 1) := by decide +kernel
theorem dX5_takesSign_0 : decode cX5_takesSign 0 = .ok (.iload_n 1, 1) := by decide +kernel
theorem dX5_takesSign_1 : decode cX5_takesSign 1 = .ok (.bipush 115, 2) := by decide +kernel
theorem dX5_takesSign_3 : decode cX5_takesSign 3 = .ok (.if_icmp .eq 9, 3) := by decide +kernel
theorem dX5_takesSign_6 : decode cX5_takesSign 6 = .ok (.iload_n 1, 1) := by decide +kernel
theorem dX5_takesSign_7 : decode cX5_takesSign 7 = .ok (.bipush 120, 2) := by decide +kernel
theorem dX5_takesSign_9 : decode cX5_takesSign 9 = .ok (.if_icmp .ne 7, 3) := by decide +kernel
theorem dX5_takesSign_12 : decode cX5_takesSign 12 = .ok (.iconst 1, 1) := by decide +kernel
theorem dX5_takesSign_13 : decode cX5_takesSign 13 = .ok (.goto 4, 3) := by decide +kernel
theorem dX5_takesSign_16 : decode cX5_takesSign 16 = .ok (.iconst 0, 1) := by decide +kernel
theorem dX5_takesSign_17 : decode cX5_takesSign 17 = .ok (.istore_n 2, 1) := by decide +kernel
theorem dX5_takesSign_18 : decode cX5_takesSign 18 = .ok (.iload_n 2, 1) := by decide +kernel
theorem dX5_takesSign_19 : decode cX5_takesSign 19 = .ok (.ifCond .ne 33, 3) := by decide +kernel
theorem dX5_takesSign_22 : decode cX5_takesSign 22 = .ok (.iload_n 1, 1) := by decide +kernel
theorem dX5_takesSign_23 : decode cX5_takesSign 23 = .ok (.bipush 105, 2) := by decide +kernel
theorem dX5_takesSign_25 : decode cX5_takesSign 25 = .ok (.if_icmp .eq 27, 3) := by decide +kernel
theorem dX5_takesSign_28 : decode cX5_takesSign 28 = .ok (.iload_n 1, 1) := by decide +kernel
theorem dX5_takesSign_29 : decode cX5_takesSign 29 = .ok (.bipush 116, 2) := by decide +kernel
theorem dX5_takesSign_31 : decode cX5_takesSign 31 = .ok (.if_icmp .eq 21, 3) := by decide +kernel
theorem dX5_takesSign_34 : decode cX5_takesSign 34 = .ok (.iload_n 1, 1) := by decide +kernel
theorem dX5_takesSign_35 : decode cX5_takesSign 35 = .ok (.bipush 108, 2) := by decide +kernel
theorem dX5_takesSign_37 : decode cX5_takesSign 37 = .ok (.if_icmp .eq 15, 3) := by decide +kernel
theorem dX5_takesSign_40 : decode cX5_takesSign 40 = .ok (.iload_n 1, 1) := by decide +kernel
theorem dX5_takesSign_41 : decode cX5_takesSign 41 = .ok (.bipush 99, 2) := by decide +kernel
theorem dX5_takesSign_43 : decode cX5_takesSign 43 = .ok (.if_icmp .eq 9, 3) := by decide +kernel
theorem dX5_takesSign_46 : decode cX5_takesSign 46 = .ok (.iload_n 1, 1) := by decide +kernel
theorem dX5_takesSign_47 : decode cX5_takesSign 47 = .ok (.bipush 114, 2) := by decide +kernel
theorem dX5_takesSign_49 : decode cX5_takesSign 49 = .ok (.if_icmp .ne 7, 3) := by decide +kernel
theorem dX5_takesSign_52 : decode cX5_takesSign 52 = .ok (.iconst 1, 1) := by decide +kernel
theorem dX5_takesSign_53 : decode cX5_takesSign 53 = .ok (.goto 4, 3) := by decide +kernel
theorem dX5_takesSign_56 : decode cX5_takesSign 56 = .ok (.iconst 0, 1) := by decide +kernel
theorem dX5_takesSign_57 : decode cX5_takesSign 57 = .ok (.istore_n 3, 1) := by decide +kernel
theorem dX5_takesSign_58 : decode cX5_takesSign 58 = .ok (.iload_n 3, 1) := by decide +kernel
theorem dX5_takesSign_59 : decode cX5_takesSign 59 = .ok (.ifCond .eq 31, 3) := by decide +kernel
theorem dX5_takesSign_62 : decode cX5_takesSign 62 = .ok (.aload_n 0, 1) := by decide +kernel
theorem dX5_takesSign_63 : decode cX5_takesSign 63 = .ok (.iload_n 1, 1) := by decide +kernel
theorem dX5_takesSign_64 : decode cX5_takesSign 64 = .ok (.putfield 114, 3) := by decide +kernel
theorem dX5_takesSign_67 : decode cX5_takesSign 67 = .ok (.aload_n 0, 1) := by decide +kernel
theorem dX5_takesSign_68 : decode cX5_takesSign 68 = .ok (.iconst 0, 1) := by decide +kernel
theorem dX5_takesSign_69 : decode cX5_takesSign 69 = .ok (.putfield 117, 3) := by decide +kernel
theorem dX5_takesSign_72 : decode cX5_takesSign 72 = .ok (.aload_n 0, 1) := by decide +kernel
theorem dX5_takesSign_73 : decode cX5_takesSign 73 = .ok (.iconst 0, 1) := by decide +kernel
theorem dX5_takesSign_74 : decode cX5_takesSign 74 = .ok (.putfield 120, 3) := by decide +kernel
theorem dX5_takesSign_77 : decode cX5_takesSign 77 = .ok (.aload_n 0, 1) := by decide +kernel
theorem dX5_takesSign_78 : decode cX5_takesSign 78 = .ok (.iload_n 2, 1) := by decide +kernel
theorem dX5_takesSign_79 : decode cX5_takesSign 79 = .ok (.ifCond .eq 7, 3) := by decide +kernel
theorem dX5_takesSign_82 : decode cX5_takesSign 82 = .ok (.iconst 1, 1) := by decide +kernel
theorem dX5_takesSign_83 : decode cX5_takesSign 83 = .ok (.goto 4, 3) := by decide +kernel
theorem dX5_takesSign_86 : decode cX5_takesSign 86 = .ok (.iconst 2, 1) := by decide +kernel
theorem dX5_takesSign_87 : decode cX5_takesSign 87 = .ok (.putfield 123, 3) := by decide +kernel
theorem dX5_takesSign_90 : decode cX5_takesSign 90 = .ok (.iload_n 3, 1) := by decide +kernel
theorem dX5_takesSign_91 : decode cX5_takesSign 91 = .ok (.ireturn, 1) := by decide +kernel
set_option maxRecDepth 20000 in
theorem ggX5_takes_X5_within : GoodIn wsX5_takes wsX5_within := goodIn_r _ [7] (by decide +kernel) (by decide +kernel)
set_option maxRecDepth 20000 in
theorem gX5_takes_X5_within : GoodIn wsX5_takes (va_wsS RX5 91 yX5_within wsX5_within) := goodIn_app (goodIn_of _ (by decide +kernel)) ggX5_takes_X5_within
set_option maxRecDepth 20000 in
theorem ggX5_takes_X5_takesSign : GoodIn wsX5_takes wsX5_takesSign := goodIn_r _ [11, 12, 2, 3, 1, 19, 20, 21, 22, 23, 24, 25, 26, 27, 28, 29, 30, 31, 32, 33] (by decide +kernel) (by decide +kernel)
set_option maxRecDepth 20000 in
theorem gX5_takes_X5_takesSign : GoodIn wsX5_takes (wsV RX5 125 RX5 yX5_takesSign wsX5_takesSign) := goodIn_app (goodIn_of _ (by decide +kernel)) ggX5_takes_X5_takesSign
set_option maxRecDepth 20000 in
theorem ggX5_takes_X5_endItem : GoodIn wsX5_takes wsX5_endItem := goodIn_r _ [16, 17, 18, 12, 2, 1, 19, 20, 21, 22, 23, 24, 25, 26, 27, 28, 29, 30, 31, 32, 33] (by decide +kernel) (by decide +kernel)
set_option maxRecDepth 20000 in
theorem gX5_takes_X5_endItem : GoodIn wsX5_takes (wsV RX5 128 RX5 yX5_endItem wsX5_endItem) := goodIn_app (goodIn_of _ (by decide +kernel)) ggX5_takes_X5_endItem
theorem dX5_takes_0 : decode cX5_takes 0 = .ok (.iload_n 1, 1) := by decide +kernel
theorem dX5_takes_1 : decode cX5_takes 1 = .ok (.bipush 48, 2) := by decide +kernel
theorem dX5_takes_3 : decode cX5_takes 3 = .ok (.bipush 57, 2) := by decide +kernel
theorem dX5_takes_5 : decode cX5_takes 5 = .ok (.invokestatic 91, 3) := by decide +kernel
theorem dX5_takes_8 : decode cX5_takes 8 = .ok (.istore_n 2, 1) := by decide +kernel
theorem dX5_takes_9 : decode cX5_takes 9 = .ok (.aload_n 0, 1) := by decide +kernel
theorem dX5_takes_10 : decode cX5_takes 10 = .ok (.getfield 123, 3) := by decide +kernel
theorem dX5_takes_13 : decode cX5_takes 13 = .ok (.ifCond .ne 9, 3) := by decide +kernel
theorem dX5_takes_16 : decode cX5_takes 16 = .ok (.aload_n 0, 1) := by decide +kernel
theorem dX5_takes_17 : decode cX5_takes 17 = .ok (.iload_n 1, 1) := by decide +kernel
theorem dX5_takes_18 : decode cX5_takes 18 = .ok (.invokevirtual 125, 3) := by decide +kernel
theorem dX5_takes_21 : decode cX5_takes 21 = .ok (.ireturn, 1) := by decide +kernel
theorem dX5_takes_22 : decode cX5_takes 22 = .ok (.iload_n 1, 1) := by decide +kernel
theorem dX5_takes_23 : decode cX5_takes 23 = .ok (.bipush 44, 2) := by decide +kernel
theorem dX5_takes_25 : decode cX5_takes 25 = .ok (.if_icmp .ne 17, 3) := by decide +kernel
theorem dX5_takes_28 : decode cX5_takes 28 = .ok (.aload_n 0, 1) := by decide +kernel
theorem dX5_takes_29 : decode cX5_takes 29 = .ok (.getfield 123, 3) := by decide +kernel
theorem dX5_takes_32 : decode cX5_takes 32 = .ok (.iconst 2, 1) := by decide +kernel
theorem dX5_takes_33 : decode cX5_takes 33 = .ok (.if_icmp .eq 9, 3) := by decide +kernel
theorem dX5_takes_36 : decode cX5_takes 36 = .ok (.aload_n 0, 1) := by decide +kernel
theorem dX5_takes_37 : decode cX5_takes 37 = .ok (.invokevirtual 128, 3) := by decide +kernel
theorem dX5_takes_40 : decode cX5_takes 40 = .ok (.iconst 1, 1) := by decide +kernel
theorem dX5_takes_41 : decode cX5_takes 41 = .ok (.ireturn, 1) := by decide +kernel
theorem dX5_takes_42 : decode cX5_takes 42 = .ok (.iload_n 2, 1) := by decide +kernel
theorem dX5_takes_43 : decode cX5_takes 43 = .ok (.ifCond .eq 34, 3) := by decide +kernel
theorem dX5_takes_46 : decode cX5_takes 46 = .ok (.aload_n 0, 1) := by decide +kernel
theorem dX5_takes_47 : decode cX5_takes 47 = .ok (.getfield 123, 3) := by decide +kernel
theorem dX5_takes_50 : decode cX5_takes 50 = .ok (.iconst 1, 1) := by decide +kernel
theorem dX5_takes_51 : decode cX5_takes 51 = .ok (.if_icmp .eq 26, 3) := by decide +kernel
theorem dX5_takes_54 : decode cX5_takes 54 = .ok (.aload_n 0, 1) := by decide +kernel
theorem dX5_takes_55 : decode cX5_takes 55 = .ok (.getfield 123, 3) := by decide +kernel
theorem dX5_takes_58 : decode cX5_takes 58 = .ok (.iconst 3, 1) := by decide +kernel
theorem dX5_takes_59 : decode cX5_takes 59 = .ok (.if_icmp .ne 20, 3) := by decide +kernel
theorem dX5_takes_62 : decode cX5_takes 62 = .ok (.aload_n 0, 1) := by decide +kernel
theorem dX5_takes_63 : decode cX5_takes 63 = .ok (.getfield 117, 3) := by decide +kernel
theorem dX5_takes_66 : decode cX5_takes 66 = .ok (.ifCond .eq 11, 3) := by decide +kernel
theorem dX5_takes_69 : decode cX5_takes 69 = .ok (.aload_n 0, 1) := by decide +kernel
theorem dX5_takes_70 : decode cX5_takes 70 = .ok (.getfield 120, 3) := by decide +kernel
theorem dX5_takes_73 : decode cX5_takes 73 = .ok (.iconst 5, 1) := by decide +kernel
theorem dX5_takes_74 : decode cX5_takes 74 = .ok (.if_icmp .ne 5, 3) := by decide +kernel
theorem dX5_takes_77 : decode cX5_takes 77 = .ok (.iconst 0, 1) := by decide +kernel
theorem dX5_takes_78 : decode cX5_takes 78 = .ok (.ireturn, 1) := by decide +kernel
theorem dX5_takes_79 : decode cX5_takes 79 = .ok (.aload_n 0, 1) := by decide +kernel
theorem dX5_takes_80 : decode cX5_takes 80 = .ok (.bipush 10, 2) := by decide +kernel
theorem dX5_takes_82 : decode cX5_takes 82 = .ok (.aload_n 0, 1) := by decide +kernel
theorem dX5_takes_83 : decode cX5_takes 83 = .ok (.getfield 117, 3) := by decide +kernel
theorem dX5_takes_86 : decode cX5_takes 86 = .ok (.imul, 1) := by decide +kernel
theorem dX5_takes_87 : decode cX5_takes 87 = .ok (.iload_n 1, 1) := by decide +kernel
theorem dX5_takes_88 : decode cX5_takes 88 = .ok (.iadd, 1) := by decide +kernel
theorem dX5_takes_89 : decode cX5_takes 89 = .ok (.bipush 48, 2) := by decide +kernel
theorem dX5_takes_91 : decode cX5_takes 91 = .ok (.isub, 1) := by decide +kernel
theorem dX5_takes_92 : decode cX5_takes 92 = .ok (.putfield 117, 3) := by decide +kernel
theorem dX5_takes_95 : decode cX5_takes 95 = .ok (.aload_n 0, 1) := by decide +kernel
theorem dX5_takes_96 : decode cX5_takes 96 = .ok (.dup, 1) := by decide +kernel
theorem dX5_takes_97 : decode cX5_takes 97 = .ok (.getfield 120, 3) := by decide +kernel
theorem dX5_takes_100 : decode cX5_takes 100 = .ok (.iconst 1, 1) := by decide +kernel
theorem dX5_takes_101 : decode cX5_takes 101 = .ok (.iadd, 1) := by decide +kernel
theorem dX5_takes_102 : decode cX5_takes 102 = .ok (.putfield 120, 3) := by decide +kernel
theorem dX5_takes_105 : decode cX5_takes 105 = .ok (.aload_n 0, 1) := by decide +kernel
theorem dX5_takes_106 : decode cX5_takes 106 = .ok (.iconst 3, 1) := by decide +kernel
theorem dX5_takes_107 : decode cX5_takes 107 = .ok (.putfield 123, 3) := by decide +kernel
theorem dX5_takes_110 : decode cX5_takes 110 = .ok (.iconst 1, 1) := by decide +kernel
theorem dX5_takes_111 : decode cX5_takes 111 = .ok (.ireturn, 1) := by decide +kernel
theorem dX5_endItem_0 : decode cX5_endItem 0 = .ok (.aload_n 0, 1) := by decide +kernel
theorem dX5_endItem_1 : decode cX5_endItem 1 = .ok (.getfield 19, 3) := by decide +kernel
theorem dX5_endItem_4 : decode cX5_endItem 4 = .ok (.iconst 2, 1) := by decide +kernel
theorem dX5_endItem_5 : decode cX5_endItem 5 = .ok (.aload_n 0, 1) := by decide +kernel
theorem dX5_endItem_6 : decode cX5_endItem 6 = .ok (.getfield 131, 3) := by decide +kernel
theorem dX5_endItem_9 : decode cX5_endItem 9 = .ok (.imul, 1) := by decide +kernel
theorem dX5_endItem_10 : decode cX5_endItem 10 = .ok (.aload_n 0, 1) := by decide +kernel
theorem dX5_endItem_11 : decode cX5_endItem 11 = .ok (.getfield 114, 3) := by decide +kernel
theorem dX5_endItem_14 : decode cX5_endItem 14 = .ok (.iastore, 1) := by decide +kernel
theorem dX5_endItem_15 : decode cX5_endItem 15 = .ok (.aload_n 0, 1) := by decide +kernel
theorem dX5_endItem_16 : decode cX5_endItem 16 = .ok (.getfield 19, 3) := by decide +kernel
theorem dX5_endItem_19 : decode cX5_endItem 19 = .ok (.iconst 2, 1) := by decide +kernel
theorem dX5_endItem_20 : decode cX5_endItem 20 = .ok (.aload_n 0, 1) := by decide +kernel
theorem dX5_endItem_21 : decode cX5_endItem 21 = .ok (.getfield 131, 3) := by decide +kernel
theorem dX5_endItem_24 : decode cX5_endItem 24 = .ok (.imul, 1) := by decide +kernel
theorem dX5_endItem_25 : decode cX5_endItem 25 = .ok (.iconst 1, 1) := by decide +kernel
theorem dX5_endItem_26 : decode cX5_endItem 26 = .ok (.iadd, 1) := by decide +kernel
theorem dX5_endItem_27 : decode cX5_endItem 27 = .ok (.aload_n 0, 1) := by decide +kernel
theorem dX5_endItem_28 : decode cX5_endItem 28 = .ok (.getfield 117, 3) := by decide +kernel
theorem dX5_endItem_31 : decode cX5_endItem 31 = .ok (.iastore, 1) := by decide +kernel
theorem dX5_endItem_32 : decode cX5_endItem 32 = .ok (.aload_n 0, 1) := by decide +kernel
theorem dX5_endItem_33 : decode cX5_endItem 33 = .ok (.dup, 1) := by decide +kernel
theorem dX5_endItem_34 : decode cX5_endItem 34 = .ok (.getfield 131, 3) := by decide +kernel
theorem dX5_endItem_37 : decode cX5_endItem 37 = .ok (.iconst 1, 1) := by decide +kernel
theorem dX5_endItem_38 : decode cX5_endItem 38 = .ok (.iadd, 1) := by decide +kernel
theorem dX5_endItem_39 : decode cX5_endItem 39 = .ok (.putfield 131, 3) := by decide +kernel
theorem dX5_endItem_42 : decode cX5_endItem 42 = .ok (.aload_n 0, 1) := by decide +kernel
theorem dX5_endItem_43 : decode cX5_endItem 43 = .ok (.iconst 0, 1) := by decide +kernel
theorem dX5_endItem_44 : decode cX5_endItem 44 = .ok (.putfield 123, 3) := by decide +kernel
theorem dX5_endItem_47 : decode cX5_endItem 47 = .ok (.return_, 1) := by decide +kernel
set_option maxRecDepth 20000 in
theorem ggX5_readText_X5_takes : GoodIn wsX5_readText wsX5_takes := goodIn_r _ [9, 1, 10, 11, 12, 13, 8, 14, 15, 16, 17, 18, 19, 20, 21, 22, 23, 24, 2, 25, 26, 27, 28, 29, 30, 31, 32, 33, 34, 35, 36, 37, 38, 39] (by decide +kernel) (by decide +kernel)
set_option maxRecDepth 20000 in
theorem gX5_readText_X5_takes : GoodIn wsX5_readText (wsV RX5 134 RX5 yX5_takes wsX5_takes) := goodIn_app (goodIn_of _ (by decide +kernel)) ggX5_readText_X5_takes
theorem dX5_readText_0 : decode cX5_readText 0 = .ok (.aload_n 0, 1) := by decide +kernel
theorem dX5_readText_1 : decode cX5_readText 1 = .ok (.iconst 0, 1) := by decide +kernel
theorem dX5_readText_2 : decode cX5_readText 2 = .ok (.putfield 123, 3) := by decide +kernel
theorem dX5_readText_5 : decode cX5_readText 5 = .ok (.aload_n 0, 1) := by decide +kernel
theorem dX5_readText_6 : decode cX5_readText 6 = .ok (.iconst 0, 1) := by decide +kernel
theorem dX5_readText_7 : decode cX5_readText 7 = .ok (.putfield 131, 3) := by decide +kernel
theorem dX5_readText_10 : decode cX5_readText 10 = .ok (.iconst 0, 1) := by decide +kernel
theorem dX5_readText_11 : decode cX5_readText 11 = .ok (.istore_n 1, 1) := by decide +kernel
theorem dX5_readText_12 : decode cX5_readText 12 = .ok (.iload_n 1, 1) := by decide +kernel
theorem dX5_readText_13 : decode cX5_readText 13 = .ok (.aload_n 0, 1) := by decide +kernel
theorem dX5_readText_14 : decode cX5_readText 14 = .ok (.getfield 111, 3) := by decide +kernel
theorem dX5_readText_17 : decode cX5_readText 17 = .ok (.if_icmp .ge 22, 3) := by decide +kernel
theorem dX5_readText_20 : decode cX5_readText 20 = .ok (.aload_n 0, 1) := by decide +kernel
theorem dX5_readText_21 : decode cX5_readText 21 = .ok (.aload_n 0, 1) := by decide +kernel
theorem dX5_readText_22 : decode cX5_readText 22 = .ok (.getfield 16, 3) := by decide +kernel
theorem dX5_readText_25 : decode cX5_readText 25 = .ok (.iload_n 1, 1) := by decide +kernel
theorem dX5_readText_26 : decode cX5_readText 26 = .ok (.iaload, 1) := by decide +kernel
theorem dX5_readText_27 : decode cX5_readText 27 = .ok (.invokevirtual 134, 3) := by decide +kernel
theorem dX5_readText_30 : decode cX5_readText 30 = .ok (.ifCond .eq 9, 3) := by decide +kernel
theorem dX5_readText_33 : decode cX5_readText 33 = .ok (.iinc 1 1, 3) := by decide +kernel
theorem dX5_readText_36 : decode cX5_readText 36 = .ok (.goto (-24), 3) := by decide +kernel
theorem dX5_readText_39 : decode cX5_readText 39 = .ok (.iload_n 1, 1) := by decide +kernel
theorem dX5_readText_40 : decode cX5_readText 40 = .ok (.ireturn, 1) := by decide +kernel
set_option maxRecDepth 20000 in
theorem ggX5_firstError_X5_readText : GoodIn wsX5_firstError wsX5_readText := goodIn_r _ [6, 7, 8, 9, 10, 11, 12, 13, 5, 14, 15, 16, 17, 18, 19, 20, 21, 22, 23, 24, 25, 26, 27, 28, 29, 30, 31, 32, 33, 34, 35, 36, 37, 38, 39, 40, 41, 42, 43, 44] (by decide +kernel) (by decide +kernel)
set_option maxRecDepth 20000 in
theorem gX5_firstError_X5_readText : GoodIn wsX5_firstError (wsV RX5 137 RX5 yX5_readText wsX5_readText) := goodIn_app (goodIn_of _ (by decide +kernel)) ggX5_firstError_X5_readText
theorem dX5_firstError_0 : decode cX5_firstError 0 = .ok (.aload_n 0, 1) := by decide +kernel
theorem dX5_firstError_1 : decode cX5_firstError 1 = .ok (.iconst 0, 1) := by decide +kernel
theorem dX5_firstError_2 : decode cX5_firstError 2 = .ok (.putfield 26, 3) := by decide +kernel
theorem dX5_firstError_5 : decode cX5_firstError 5 = .ok (.aload_n 0, 1) := by decide +kernel
theorem dX5_firstError_6 : decode cX5_firstError 6 = .ok (.invokevirtual 137, 3) := by decide +kernel
theorem dX5_firstError_9 : decode cX5_firstError 9 = .ok (.ireturn, 1) := by decide +kernel
set_option maxRecDepth 20000 in
theorem ggX5_does_X5_start : GoodIn wsX5_does wsX5_start := goodIn_r _ [6, 1, 7, 8, 9, 10, 5, 11, 12, 13, 14, 98, 99, 100, 101, 102, 103, 104, 105, 106, 107, 108, 109, 110, 111, 112] (by decide +kernel) (by decide +kernel)
set_option maxRecDepth 20000 in
theorem gX5_does_X5_start : GoodIn wsX5_does (wsV RX5 141 RX5 yX5_start wsX5_start) := goodIn_app (goodIn_of _ (by decide +kernel)) ggX5_does_X5_start
set_option maxRecDepth 20000 in
theorem ggX5_does_X5_stop : GoodIn wsX5_does wsX5_stop := goodIn_r _ [18, 1, 7, 19, 20, 21, 5, 22, 12, 13, 14, 98, 99, 100, 101, 102, 103, 104, 105, 106, 107, 108, 109, 110, 111, 112] (by decide +kernel) (by decide +kernel)
set_option maxRecDepth 20000 in
theorem gX5_does_X5_stop : GoodIn wsX5_does (wsV RX5 144 RX5 yX5_stop wsX5_stop) := goodIn_app (goodIn_of _ (by decide +kernel)) ggX5_does_X5_stop
set_option maxRecDepth 20000 in
theorem ggX5_does_X5_run : GoodIn wsX5_does wsX5_run := goodIn_r _ [26, 7, 27, 1, 28, 29, 5, 30, 31, 32, 33, 34, 35, 36, 37, 38, 39, 40, 41, 42, 8, 9, 10, 11, 19, 20, 21, 22, 12, 13, 14, 43, 44, 45, 46, 47, 48, 49, 50, 51, 52, 53, 54, 55, 56, 57, 58, 59, 60, 61, 62, 63, 64, 65, 66, 67, 68, 69, 70, 71, 72, 73, 74, 75, 76, 77, 78, 79, 80, 81, 82, 83, 98, 99, 100, 101, 102, 103, 104, 105, 106, 107, 108, 109, 110, 111, 112] (by decide +kernel) (by decide +kernel)
set_option maxRecDepth 20000 in
theorem gX5_does_X5_run : GoodIn wsX5_does (wsV RX5 147 RX5 yX5_run wsX5_run) := goodIn_app (goodIn_of _ (by decide +kernel)) ggX5_does_X5_run
set_option maxRecDepth 20000 in
theorem ggX5_does_X5_set : GoodIn wsX5_does wsX5_set := goodIn_r _ [87, 1, 7, 88, 89, 5, 90, 28, 29, 30, 91, 92, 93, 94, 95, 96, 97, 98, 99, 100, 101, 102, 103, 104, 105, 106, 107, 108, 109, 110, 111, 112] (by decide +kernel) (by decide +kernel)
set_option maxRecDepth 20000 in
theorem gX5_does_X5_set : GoodIn wsX5_does (wsV RX5 150 RX5 yX5_set wsX5_set) := goodIn_app (goodIn_of _ (by decide +kernel)) ggX5_does_X5_set
theorem dX5_does_0 : decode cX5_does 0 = .ok (.iload_n 1, 1) := by decide +kernel
theorem dX5_does_1 : decode cX5_does 1 = .ok (.lookupswitch 60 #[(114, 51), (115, 35), (120, 43)], 35) := by decide +kernel
theorem dX5_does_36 : decode cX5_does 36 = .ok (.aload_n 0, 1) := by decide +kernel
theorem dX5_does_37 : decode cX5_does 37 = .ok (.invokevirtual 141, 3) := by decide +kernel
theorem dX5_does_40 : decode cX5_does 40 = .ok (.pop, 1) := by decide +kernel
theorem dX5_does_41 : decode cX5_does 41 = .ok (.goto 57, 3) := by decide +kernel
theorem dX5_does_44 : decode cX5_does 44 = .ok (.aload_n 0, 1) := by decide +kernel
theorem dX5_does_45 : decode cX5_does 45 = .ok (.invokevirtual 144, 3) := by decide +kernel
theorem dX5_does_48 : decode cX5_does 48 = .ok (.pop, 1) := by decide +kernel
theorem dX5_does_49 : decode cX5_does 49 = .ok (.goto 49, 3) := by decide +kernel
theorem dX5_does_52 : decode cX5_does 52 = .ok (.aload_n 0, 1) := by decide +kernel
theorem dX5_does_53 : decode cX5_does 53 = .ok (.iload_n 2, 1) := by decide +kernel
theorem dX5_does_54 : decode cX5_does 54 = .ok (.invokevirtual 147, 3) := by decide +kernel
theorem dX5_does_57 : decode cX5_does 57 = .ok (.pop, 1) := by decide +kernel
theorem dX5_does_58 : decode cX5_does 58 = .ok (.goto 40, 3) := by decide +kernel
theorem dX5_does_61 : decode cX5_does 61 = .ok (.aload_n 0, 1) := by decide +kernel
theorem dX5_does_62 : decode cX5_does 62 = .ok (.iload_n 1, 1) := by decide +kernel
theorem dX5_does_63 : decode cX5_does 63 = .ok (.bipush 105, 2) := by decide +kernel
theorem dX5_does_65 : decode cX5_does 65 = .ok (.if_icmp .ne 7, 3) := by decide +kernel
theorem dX5_does_68 : decode cX5_does 68 = .ok (.iconst 0, 1) := by decide +kernel
theorem dX5_does_69 : decode cX5_does 69 = .ok (.goto 24, 3) := by decide +kernel
theorem dX5_does_72 : decode cX5_does 72 = .ok (.iload_n 1, 1) := by decide +kernel
theorem dX5_does_73 : decode cX5_does 73 = .ok (.bipush 116, 2) := by decide +kernel
theorem dX5_does_75 : decode cX5_does 75 = .ok (.if_icmp .ne 7, 3) := by decide +kernel
theorem dX5_does_78 : decode cX5_does 78 = .ok (.iconst 1, 1) := by decide +kernel
theorem dX5_does_79 : decode cX5_does 79 = .ok (.goto 14, 3) := by decide +kernel
theorem dX5_does_82 : decode cX5_does 82 = .ok (.iload_n 1, 1) := by decide +kernel
theorem dX5_does_83 : decode cX5_does 83 = .ok (.bipush 108, 2) := by decide +kernel
theorem dX5_does_85 : decode cX5_does 85 = .ok (.if_icmp .ne 7, 3) := by decide +kernel
theorem dX5_does_88 : decode cX5_does 88 = .ok (.iconst 2, 1) := by decide +kernel
theorem dX5_does_89 : decode cX5_does 89 = .ok (.goto 4, 3) := by decide +kernel
theorem dX5_does_92 : decode cX5_does 92 = .ok (.iconst 5, 1) := by decide +kernel
theorem dX5_does_93 : decode cX5_does 93 = .ok (.iload_n 2, 1) := by decide +kernel
theorem dX5_does_94 : decode cX5_does 94 = .ok (.invokevirtual 150, 3) := by decide +kernel
theorem dX5_does_97 : decode cX5_does 97 = .ok (.pop, 1) := by decide +kernel
theorem dX5_does_98 : decode cX5_does 98 = .ok (.aload_n 0, 1) := by decide +kernel
theorem dX5_does_99 : decode cX5_does 99 = .ok (.getfield 26, 3) := by decide +kernel
theorem dX5_does_102 : decode cX5_does 102 = .ok (.ifCond .ne 7, 3) := by decide +kernel
theorem dX5_does_105 : decode cX5_does 105 = .ok (.iconst 1, 1) := by decide +kernel
theorem dX5_does_106 : decode cX5_does 106 = .ok (.goto 4, 3) := by decide +kernel
theorem dX5_does_109 : decode cX5_does 109 = .ok (.iconst 0, 1) := by decide +kernel
theorem dX5_does_110 : decode cX5_does 110 = .ok (.ireturn, 1) := by decide +kernel
set_option maxRecDepth 20000 in
theorem ggX5_play_X5_readText : GoodIn wsX5_play wsX5_readText := goodIn_r _ [10, 2, 4, 1, 11, 12, 13, 14, 9, 15, 16, 17, 18, 19, 20, 21, 22, 23, 24, 25, 26, 27, 28, 29, 5, 126, 127, 128, 129, 130, 131, 132, 133, 134, 135, 136, 137, 138, 139, 140] (by decide +kernel) (by decide +kernel)
set_option maxRecDepth 20000 in
theorem gX5_play_X5_readText : GoodIn wsX5_play (wsV RX5 137 RX5 yX5_readText wsX5_readText) := goodIn_app (goodIn_of _ (by decide +kernel)) ggX5_play_X5_readText
set_option maxRecDepth 20000 in
theorem ggX5_play_X5_endItem : GoodIn wsX5_play wsX5_endItem := goodIn_r _ [29, 5, 4, 25, 16, 2, 126, 127, 128, 129, 130, 131, 132, 133, 134, 135, 136, 137, 138, 139, 140] (by decide +kernel) (by decide +kernel)
set_option maxRecDepth 20000 in
theorem gX5_play_X5_endItem : GoodIn wsX5_play (wsV RX5 128 RX5 yX5_endItem wsX5_endItem) := goodIn_app (goodIn_of _ (by decide +kernel)) ggX5_play_X5_endItem
set_option maxRecDepth 20000 in
theorem ggX5_play_X5_does : GoodIn wsX5_play wsX5_does := goodIn_r _ [33, 3, 34, 35, 36, 9, 37, 38, 39, 40, 41, 42, 43, 44, 45, 46, 47, 48, 49, 50, 51, 52, 53, 54, 55, 56, 57, 58, 18, 19, 20, 59, 60, 61, 62, 63, 64, 65, 66, 67, 68, 69, 70, 71, 72, 73, 74, 75, 76, 77, 78, 79, 80, 81, 82, 83, 84, 85, 86, 87, 88, 89, 90, 91, 92, 93, 94, 95, 96, 97, 98, 99, 100, 101, 102, 103, 104, 105, 106, 107, 108, 109, 110, 111, 112, 113, 114, 115, 116, 117, 118, 119, 120, 121, 122, 123, 124, 125, 126, 127, 128, 129, 130, 131, 132, 133, 134, 135, 136, 137, 138, 139, 140] (by decide +kernel) (by decide +kernel)
set_option maxRecDepth 20000 in
theorem gX5_play_X5_does : GoodIn wsX5_play (wsV RX5 153 RX5 yX5_does wsX5_does) := goodIn_app (goodIn_of _ (by decide +kernel)) ggX5_play_X5_does
theorem dX5_play_0 : decode cX5_play 0 = .ok (.aload_n 0, 1) := by decide +kernel
theorem dX5_play_1 : decode cX5_play 1 = .ok (.invokevirtual 137, 3) := by decide +kernel
theorem dX5_play_4 : decode cX5_play 4 = .ok (.aload_n 0, 1) := by decide +kernel
theorem dX5_play_5 : decode cX5_play 5 = .ok (.getfield 111, 3) := by decide +kernel
theorem dX5_play_8 : decode cX5_play 8 = .ok (.if_icmp .ne 23, 3) := by decide +kernel
theorem dX5_play_11 : decode cX5_play 11 = .ok (.aload_n 0, 1) := by decide +kernel
theorem dX5_play_12 : decode cX5_play 12 = .ok (.getfield 123, 3) := by decide +kernel
theorem dX5_play_15 : decode cX5_play 15 = .ok (.iconst 1, 1) := by decide +kernel
theorem dX5_play_16 : decode cX5_play 16 = .ok (.if_icmp .eq 11, 3) := by decide +kernel
theorem dX5_play_19 : decode cX5_play 19 = .ok (.aload_n 0, 1) := by decide +kernel
theorem dX5_play_20 : decode cX5_play 20 = .ok (.getfield 123, 3) := by decide +kernel
theorem dX5_play_23 : decode cX5_play 23 = .ok (.iconst 3, 1) := by decide +kernel
theorem dX5_play_24 : decode cX5_play 24 = .ok (.if_icmp .ne 7, 3) := by decide +kernel
theorem dX5_play_27 : decode cX5_play 27 = .ok (.iconst 1, 1) := by decide +kernel
theorem dX5_play_28 : decode cX5_play 28 = .ok (.goto 4, 3) := by decide +kernel
theorem dX5_play_31 : decode cX5_play 31 = .ok (.iconst 0, 1) := by decide +kernel
theorem dX5_play_32 : decode cX5_play 32 = .ok (.istore_n 1, 1) := by decide +kernel
theorem dX5_play_33 : decode cX5_play 33 = .ok (.aload_n 0, 1) := by decide +kernel
theorem dX5_play_34 : decode cX5_play 34 = .ok (.iload_n 1, 1) := by decide +kernel
theorem dX5_play_35 : decode cX5_play 35 = .ok (.ifCond .eq 7, 3) := by decide +kernel
theorem dX5_play_38 : decode cX5_play 38 = .ok (.iconst 0, 1) := by decide +kernel
theorem dX5_play_39 : decode cX5_play 39 = .ok (.goto 4, 3) := by decide +kernel
theorem dX5_play_42 : decode cX5_play 42 = .ok (.iconst 1, 1) := by decide +kernel
theorem dX5_play_43 : decode cX5_play 43 = .ok (.putfield 26, 3) := by decide +kernel
theorem dX5_play_46 : decode cX5_play 46 = .ok (.aload_n 0, 1) := by decide +kernel
theorem dX5_play_47 : decode cX5_play 47 = .ok (.getfield 26, 3) := by decide +kernel
theorem dX5_play_50 : decode cX5_play 50 = .ok (.ifCond .le 5, 3) := by decide +kernel
theorem dX5_play_53 : decode cX5_play 53 = .ok (.iconst 0, 1) := by decide +kernel
theorem dX5_play_54 : decode cX5_play 54 = .ok (.ireturn, 1) := by decide +kernel
theorem dX5_play_55 : decode cX5_play 55 = .ok (.aload_n 0, 1) := by decide +kernel
theorem dX5_play_56 : decode cX5_play 56 = .ok (.invokevirtual 128, 3) := by decide +kernel
theorem dX5_play_59 : decode cX5_play 59 = .ok (.iconst 0, 1) := by decide +kernel
theorem dX5_play_60 : decode cX5_play 60 = .ok (.istore_n 2, 1) := by decide +kernel
theorem dX5_play_61 : decode cX5_play 61 = .ok (.iload_n 2, 1) := by decide +kernel
theorem dX5_play_62 : decode cX5_play 62 = .ok (.aload_n 0, 1) := by decide +kernel
theorem dX5_play_63 : decode cX5_play 63 = .ok (.getfield 131, 3) := by decide +kernel
theorem dX5_play_66 : decode cX5_play 66 = .ok (.if_icmp .ge 34, 3) := by decide +kernel
theorem dX5_play_69 : decode cX5_play 69 = .ok (.aload_n 0, 1) := by decide +kernel
theorem dX5_play_70 : decode cX5_play 70 = .ok (.aload_n 0, 1) := by decide +kernel
theorem dX5_play_71 : decode cX5_play 71 = .ok (.getfield 19, 3) := by decide +kernel
theorem dX5_play_74 : decode cX5_play 74 = .ok (.iconst 2, 1) := by decide +kernel
theorem dX5_play_75 : decode cX5_play 75 = .ok (.iload_n 2, 1) := by decide +kernel
theorem dX5_play_76 : decode cX5_play 76 = .ok (.imul, 1) := by decide +kernel
theorem dX5_play_77 : decode cX5_play 77 = .ok (.iaload, 1) := by decide +kernel
theorem dX5_play_78 : decode cX5_play 78 = .ok (.aload_n 0, 1) := by decide +kernel
theorem dX5_play_79 : decode cX5_play 79 = .ok (.getfield 19, 3) := by decide +kernel
theorem dX5_play_82 : decode cX5_play 82 = .ok (.iconst 2, 1) := by decide +kernel
theorem dX5_play_83 : decode cX5_play 83 = .ok (.iload_n 2, 1) := by decide +kernel
theorem dX5_play_84 : decode cX5_play 84 = .ok (.imul, 1) := by decide +kernel
theorem dX5_play_85 : decode cX5_play 85 = .ok (.iconst 1, 1) := by decide +kernel
theorem dX5_play_86 : decode cX5_play 86 = .ok (.iadd, 1) := by decide +kernel
theorem dX5_play_87 : decode cX5_play 87 = .ok (.iaload, 1) := by decide +kernel
theorem dX5_play_88 : decode cX5_play 88 = .ok (.invokevirtual 153, 3) := by decide +kernel
theorem dX5_play_91 : decode cX5_play 91 = .ok (.ifCond .eq 9, 3) := by decide +kernel
theorem dX5_play_94 : decode cX5_play 94 = .ok (.iinc 2 1, 3) := by decide +kernel
theorem dX5_play_97 : decode cX5_play 97 = .ok (.goto (-36), 3) := by decide +kernel
theorem dX5_play_100 : decode cX5_play 100 = .ok (.aload_n 0, 1) := by decide +kernel
theorem dX5_play_101 : decode cX5_play 101 = .ok (.iconst 0, 1) := by decide +kernel
theorem dX5_play_102 : decode cX5_play 102 = .ok (.putfield 26, 3) := by decide +kernel
theorem dX5_play_105 : decode cX5_play 105 = .ok (.aload_n 0, 1) := by decide +kernel
theorem dX5_play_106 : decode cX5_play 106 = .ok (.iconst 0, 1) := by decide +kernel
theorem dX5_play_107 : decode cX5_play 107 = .ok (.putfield 111, 3) := by decide +kernel
theorem dX5_play_110 : decode cX5_play 110 = .ok (.iload_n 2, 1) := by decide +kernel
theorem dX5_play_111 : decode cX5_play 111 = .ok (.ireturn, 1) := by decide +kernel
theorem dX5_place_0 : decode cX5_place 0 = .ok (.iload_n 0, 1) := by decide +kernel
theorem dX5_place_1 : decode cX5_place 1 = .ok (.tableswitch 113 0 13 #[71, 74, 77, 80, 83, 86, 89, 92, 95, 98, 101, 104, 107, 110], 71) := by decide +kernel
theorem dX5_place_72 : decode cX5_place 72 = .ok (.bipush 20, 2) := by decide +kernel
theorem dX5_place_74 : decode cX5_place 74 = .ok (.ireturn, 1) := by decide +kernel
theorem dX5_place_75 : decode cX5_place 75 = .ok (.bipush 17, 2) := by decide +kernel
theorem dX5_place_77 : decode cX5_place 77 = .ok (.ireturn, 1) := by decide +kernel
theorem dX5_place_78 : decode cX5_place 78 = .ok (.bipush 18, 2) := by decide +kernel
theorem dX5_place_80 : decode cX5_place 80 = .ok (.ireturn, 1) := by decide +kernel
theorem dX5_place_81 : decode cX5_place 81 = .ok (.bipush 16, 2) := by decide +kernel
theorem dX5_place_83 : decode cX5_place 83 = .ok (.ireturn, 1) := by decide +kernel
theorem dX5_place_84 : decode cX5_place 84 = .ok (.bipush 24, 2) := by decide +kernel
theorem dX5_place_86 : decode cX5_place 86 = .ok (.ireturn, 1) := by decide +kernel
theorem dX5_place_87 : decode cX5_place 87 = .ok (.bipush 22, 2) := by decide +kernel
theorem dX5_place_89 : decode cX5_place 89 = .ok (.ireturn, 1) := by decide +kernel
theorem dX5_place_90 : decode cX5_place 90 = .ok (.bipush 19, 2) := by decide +kernel
theorem dX5_place_92 : decode cX5_place 92 = .ok (.ireturn, 1) := by decide +kernel
theorem dX5_place_93 : decode cX5_place 93 = .ok (.bipush 21, 2) := by decide +kernel
theorem dX5_place_95 : decode cX5_place 95 = .ok (.ireturn, 1) := by decide +kernel
theorem dX5_place_96 : decode cX5_place 96 = .ok (.bipush 23, 2) := by decide +kernel
theorem dX5_place_98 : decode cX5_place 98 = .ok (.ireturn, 1) := by decide +kernel
theorem dX5_place_99 : decode cX5_place 99 = .ok (.bipush 25, 2) := by decide +kernel
theorem dX5_place_101 : decode cX5_place 101 = .ok (.ireturn, 1) := by decide +kernel
theorem dX5_place_102 : decode cX5_place 102 = .ok (.bipush 26, 2) := by decide +kernel
theorem dX5_place_104 : decode cX5_place 104 = .ok (.ireturn, 1) := by decide +kernel
theorem dX5_place_105 : decode cX5_place 105 = .ok (.bipush 27, 2) := by decide +kernel
theorem dX5_place_107 : decode cX5_place 107 = .ok (.ireturn, 1) := by decide +kernel
theorem dX5_place_108 : decode cX5_place 108 = .ok (.bipush 28, 2) := by decide +kernel
theorem dX5_place_110 : decode cX5_place 110 = .ok (.ireturn, 1) := by decide +kernel
theorem dX5_place_111 : decode cX5_place 111 = .ok (.bipush 15, 2) := by decide +kernel
theorem dX5_place_113 : decode cX5_place 113 = .ok (.ireturn, 1) := by decide +kernel
theorem dX5_place_114 : decode cX5_place 114 = .ok (.bipush 31, 2) := by decide +kernel
theorem dX5_place_116 : decode cX5_place 116 = .ok (.ireturn, 1) := by decide +kernel
set_option maxRecDepth 20000 in
theorem ggX5_count_X5_within : GoodIn wsX5_count wsX5_within := goodIn_r _ [6] (by decide +kernel) (by decide +kernel)
set_option maxRecDepth 20000 in
theorem gX5_count_X5_within : GoodIn wsX5_count (va_wsS RX5 91 yX5_within wsX5_within) := goodIn_app (goodIn_of _ (by decide +kernel)) ggX5_count_X5_within
set_option maxRecDepth 20000 in
theorem ggX5_count_X5_place : GoodIn wsX5_count wsX5_place := goodIn_r _ [9] (by decide +kernel) (by decide +kernel)
set_option maxRecDepth 20000 in
theorem gX5_count_X5_place : GoodIn wsX5_count (va_wsS RX5 157 yX5_place wsX5_place) := goodIn_app (goodIn_of _ (by decide +kernel)) ggX5_count_X5_place
theorem dX5_count_0 : decode cX5_count 0 = .ok (.aload_n 0, 1) := by decide +kernel
theorem dX5_count_1 : decode cX5_count 1 = .ok (.iload_n 1, 1) := by decide +kernel
theorem dX5_count_2 : decode cX5_count 2 = .ok (.iconst 0, 1) := by decide +kernel
theorem dX5_count_3 : decode cX5_count 3 = .ok (.bipush 14, 2) := by decide +kernel
theorem dX5_count_5 : decode cX5_count 5 = .ok (.invokestatic 91, 3) := by decide +kernel
theorem dX5_count_8 : decode cX5_count 8 = .ok (.ifCond .eq 7, 3) := by decide +kernel
theorem dX5_count_11 : decode cX5_count 11 = .ok (.iconst 0, 1) := by decide +kernel
theorem dX5_count_12 : decode cX5_count 12 = .ok (.goto 4, 3) := by decide +kernel
theorem dX5_count_15 : decode cX5_count 15 = .ok (.iconst 1, 1) := by decide +kernel
theorem dX5_count_16 : decode cX5_count 16 = .ok (.putfield 26, 3) := by decide +kernel
theorem dX5_count_19 : decode cX5_count 19 = .ok (.aload_n 0, 1) := by decide +kernel
theorem dX5_count_20 : decode cX5_count 20 = .ok (.getfield 26, 3) := by decide +kernel
theorem dX5_count_23 : decode cX5_count 23 = .ok (.ifCond .le 7, 3) := by decide +kernel
theorem dX5_count_26 : decode cX5_count 26 = .ok (.iconst 0, 1) := by decide +kernel
theorem dX5_count_27 : decode cX5_count 27 = .ok (.goto 12, 3) := by decide +kernel
theorem dX5_count_30 : decode cX5_count 30 = .ok (.aload_n 0, 1) := by decide +kernel
theorem dX5_count_31 : decode cX5_count 31 = .ok (.getfield 7, 3) := by decide +kernel
theorem dX5_count_34 : decode cX5_count 34 = .ok (.iload_n 1, 1) := by decide +kernel
theorem dX5_count_35 : decode cX5_count 35 = .ok (.invokestatic 157, 3) := by decide +kernel
theorem dX5_count_38 : decode cX5_count 38 = .ok (.iaload, 1) := by decide +kernel
theorem dX5_count_39 : decode cX5_count 39 = .ok (.ireturn, 1) := by decide +kernel
set_option maxRecDepth 20000 in
theorem ggX5_phase_X5_within : GoodIn wsX5_phase wsX5_within := goodIn_r _ [6] (by decide +kernel) (by decide +kernel)
set_option maxRecDepth 20000 in
theorem gX5_phase_X5_within : GoodIn wsX5_phase (va_wsS RX5 91 yX5_within wsX5_within) := goodIn_app (goodIn_of _ (by decide +kernel)) ggX5_phase_X5_within
set_option maxRecDepth 20000 in
theorem ggX5_phase_X5_at : GoodIn wsX5_phase wsX5_at := goodIn_r _ [9] (by decide +kernel) (by decide +kernel)
set_option maxRecDepth 20000 in
theorem gX5_phase_X5_at : GoodIn wsX5_phase (va_wsS RX5 35 yX5_at wsX5_at) := goodIn_app (goodIn_of _ (by decide +kernel)) ggX5_phase_X5_at
theorem dX5_phase_0 : decode cX5_phase 0 = .ok (.aload_n 0, 1) := by decide +kernel
theorem dX5_phase_1 : decode cX5_phase 1 = .ok (.iload_n 1, 1) := by decide +kernel
theorem dX5_phase_2 : decode cX5_phase 2 = .ok (.iconst 0, 1) := by decide +kernel
theorem dX5_phase_3 : decode cX5_phase 3 = .ok (.aload_n 0, 1) := by decide +kernel
theorem dX5_phase_4 : decode cX5_phase 4 = .ok (.getfield 7, 3) := by decide +kernel
theorem dX5_phase_7 : decode cX5_phase 7 = .ok (.bipush 15, 2) := by decide +kernel
theorem dX5_phase_9 : decode cX5_phase 9 = .ok (.iaload, 1) := by decide +kernel
theorem dX5_phase_10 : decode cX5_phase 10 = .ok (.iconst 1, 1) := by decide +kernel
theorem dX5_phase_11 : decode cX5_phase 11 = .ok (.isub, 1) := by decide +kernel
theorem dX5_phase_12 : decode cX5_phase 12 = .ok (.invokestatic 91, 3) := by decide +kernel
theorem dX5_phase_15 : decode cX5_phase 15 = .ok (.ifCond .ne 7, 3) := by decide +kernel
theorem dX5_phase_18 : decode cX5_phase 18 = .ok (.iconst 1, 1) := by decide +kernel
theorem dX5_phase_19 : decode cX5_phase 19 = .ok (.goto 18, 3) := by decide +kernel
theorem dX5_phase_22 : decode cX5_phase 22 = .ok (.iload_n 2, 1) := by decide +kernel
theorem dX5_phase_23 : decode cX5_phase 23 = .ok (.iconst 0, 1) := by decide +kernel
theorem dX5_phase_24 : decode cX5_phase 24 = .ok (.bipush 6, 2) := by decide +kernel
theorem dX5_phase_26 : decode cX5_phase 26 = .ok (.invokestatic 91, 3) := by decide +kernel
theorem dX5_phase_29 : decode cX5_phase 29 = .ok (.ifCond .eq 7, 3) := by decide +kernel
theorem dX5_phase_32 : decode cX5_phase 32 = .ok (.iconst 0, 1) := by decide +kernel
theorem dX5_phase_33 : decode cX5_phase 33 = .ok (.goto 4, 3) := by decide +kernel
theorem dX5_phase_36 : decode cX5_phase 36 = .ok (.iconst 2, 1) := by decide +kernel
theorem dX5_phase_37 : decode cX5_phase 37 = .ok (.putfield 26, 3) := by decide +kernel
theorem dX5_phase_40 : decode cX5_phase 40 = .ok (.aload_n 0, 1) := by decide +kernel
theorem dX5_phase_41 : decode cX5_phase 41 = .ok (.getfield 26, 3) := by decide +kernel
theorem dX5_phase_44 : decode cX5_phase 44 = .ok (.ifCond .le 7, 3) := by decide +kernel
theorem dX5_phase_47 : decode cX5_phase 47 = .ok (.iconst 0, 1) := by decide +kernel
theorem dX5_phase_48 : decode cX5_phase 48 = .ok (.goto 13, 3) := by decide +kernel
theorem dX5_phase_51 : decode cX5_phase 51 = .ok (.aload_n 0, 1) := by decide +kernel
theorem dX5_phase_52 : decode cX5_phase 52 = .ok (.getfield 7, 3) := by decide +kernel
theorem dX5_phase_55 : decode cX5_phase 55 = .ok (.iload_n 1, 1) := by decide +kernel
theorem dX5_phase_56 : decode cX5_phase 56 = .ok (.iload_n 2, 1) := by decide +kernel
theorem dX5_phase_57 : decode cX5_phase 57 = .ok (.invokestatic 35, 3) := by decide +kernel
theorem dX5_phase_60 : decode cX5_phase 60 = .ok (.iaload, 1) := by decide +kernel
theorem dX5_phase_61 : decode cX5_phase 61 = .ok (.ireturn, 1) := by decide +kernel
set_option maxRecDepth 20000 in
theorem ggX5_record__X5_within : GoodIn wsX5_record_ wsX5_within := goodIn_r _ [6] (by decide +kernel) (by decide +kernel)
set_option maxRecDepth 20000 in
theorem gX5_record__X5_within : GoodIn wsX5_record_ (va_wsS RX5 91 yX5_within wsX5_within) := goodIn_app (goodIn_of _ (by decide +kernel)) ggX5_record__X5_within
theorem dX5_record__0 : decode cX5_record_ 0 = .ok (.aload_n 0, 1) := by decide +kernel
theorem dX5_record__1 : decode cX5_record_ 1 = .ok (.iload_n 1, 1) := by decide +kernel
theorem dX5_record__2 : decode cX5_record_ 2 = .ok (.iconst 0, 1) := by decide +kernel
theorem dX5_record__3 : decode cX5_record_ 3 = .ok (.aload_n 0, 1) := by decide +kernel
theorem dX5_record__4 : decode cX5_record_ 4 = .ok (.getfield 7, 3) := by decide +kernel
theorem dX5_record__7 : decode cX5_record_ 7 = .ok (.bipush 31, 2) := by decide +kernel
theorem dX5_record__9 : decode cX5_record_ 9 = .ok (.iaload, 1) := by decide +kernel
theorem dX5_record__10 : decode cX5_record_ 10 = .ok (.iconst 1, 1) := by decide +kernel
theorem dX5_record__11 : decode cX5_record_ 11 = .ok (.isub, 1) := by decide +kernel
theorem dX5_record__12 : decode cX5_record_ 12 = .ok (.invokestatic 91, 3) := by decide +kernel
theorem dX5_record__15 : decode cX5_record_ 15 = .ok (.ifCond .ne 7, 3) := by decide +kernel
theorem dX5_record__18 : decode cX5_record_ 18 = .ok (.iconst 1, 1) := by decide +kernel
theorem dX5_record__19 : decode cX5_record_ 19 = .ok (.goto 17, 3) := by decide +kernel
theorem dX5_record__22 : decode cX5_record_ 22 = .ok (.iload_n 2, 1) := by decide +kernel
theorem dX5_record__23 : decode cX5_record_ 23 = .ok (.iconst 0, 1) := by decide +kernel
theorem dX5_record__24 : decode cX5_record_ 24 = .ok (.iconst 5, 1) := by decide +kernel
theorem dX5_record__25 : decode cX5_record_ 25 = .ok (.invokestatic 91, 3) := by decide +kernel
theorem dX5_record__28 : decode cX5_record_ 28 = .ok (.ifCond .eq 7, 3) := by decide +kernel
theorem dX5_record__31 : decode cX5_record_ 31 = .ok (.iconst 0, 1) := by decide +kernel
theorem dX5_record__32 : decode cX5_record_ 32 = .ok (.goto 4, 3) := by decide +kernel
theorem dX5_record__35 : decode cX5_record_ 35 = .ok (.iconst 2, 1) := by decide +kernel
theorem dX5_record__36 : decode cX5_record_ 36 = .ok (.putfield 26, 3) := by decide +kernel
theorem dX5_record__39 : decode cX5_record_ 39 = .ok (.aload_n 0, 1) := by decide +kernel
theorem dX5_record__40 : decode cX5_record_ 40 = .ok (.getfield 26, 3) := by decide +kernel
theorem dX5_record__43 : decode cX5_record_ 43 = .ok (.ifCond .le 7, 3) := by decide +kernel
theorem dX5_record__46 : decode cX5_record_ 46 = .ok (.iconst 0, 1) := by decide +kernel
theorem dX5_record__47 : decode cX5_record_ 47 = .ok (.goto 17, 3) := by decide +kernel
theorem dX5_record__50 : decode cX5_record_ 50 = .ok (.aload_n 0, 1) := by decide +kernel
theorem dX5_record__51 : decode cX5_record_ 51 = .ok (.getfield 7, 3) := by decide +kernel
theorem dX5_record__54 : decode cX5_record_ 54 = .ok (.bipush 63, 2) := by decide +kernel
theorem dX5_record__56 : decode cX5_record_ 56 = .ok (.bipush 6, 2) := by decide +kernel
theorem dX5_record__58 : decode cX5_record_ 58 = .ok (.iload_n 1, 1) := by decide +kernel
theorem dX5_record__59 : decode cX5_record_ 59 = .ok (.imul, 1) := by decide +kernel
theorem dX5_record__60 : decode cX5_record_ 60 = .ok (.iadd, 1) := by decide +kernel
theorem dX5_record__61 : decode cX5_record_ 61 = .ok (.iload_n 2, 1) := by decide +kernel
theorem dX5_record__62 : decode cX5_record_ 62 = .ok (.iadd, 1) := by decide +kernel
theorem dX5_record__63 : decode cX5_record_ 63 = .ok (.iaload, 1) := by decide +kernel
theorem dX5_record__64 : decode cX5_record_ 64 = .ok (.ireturn, 1) := by decide +kernel
set_option maxRecDepth 20000 in
theorem ggX5_keep_X5_layExtremes : GoodIn wsX5_keep wsX5_layExtremes := goodIn_r _ [7, 8, 9, 10, 11, 12, 13, 14, 15, 16, 17, 18, 19, 20, 21, 22, 23, 24, 25, 26] (by decide +kernel) (by decide +kernel)
set_option maxRecDepth 20000 in
theorem gX5_keep_X5_layExtremes : GoodIn wsX5_keep (wsV RX5 105 RX5 yX5_layExtremes wsX5_layExtremes) := goodIn_app (goodIn_of _ (by decide +kernel)) ggX5_keep_X5_layExtremes
theorem dX5_keep_0 : decode cX5_keep 0 = .ok (.iconst 0, 1) := by decide +kernel
theorem dX5_keep_1 : decode cX5_keep 1 = .ok (.istore_n 1, 1) := by decide +kernel
theorem dX5_keep_2 : decode cX5_keep 2 = .ok (.iload_n 1, 1) := by decide +kernel
theorem dX5_keep_3 : decode cX5_keep 3 = .ok (.sipush 159, 3) := by decide +kernel
theorem dX5_keep_6 : decode cX5_keep 6 = .ok (.if_icmp .ge 21, 3) := by decide +kernel
theorem dX5_keep_9 : decode cX5_keep 9 = .ok (.aload_n 0, 1) := by decide +kernel
theorem dX5_keep_10 : decode cX5_keep 10 = .ok (.getfield 13, 3) := by decide +kernel
theorem dX5_keep_13 : decode cX5_keep 13 = .ok (.iload_n 1, 1) := by decide +kernel
theorem dX5_keep_14 : decode cX5_keep 14 = .ok (.aload_n 0, 1) := by decide +kernel
theorem dX5_keep_15 : decode cX5_keep 15 = .ok (.getfield 7, 3) := by decide +kernel
theorem dX5_keep_18 : decode cX5_keep 18 = .ok (.iload_n 1, 1) := by decide +kernel
theorem dX5_keep_19 : decode cX5_keep 19 = .ok (.iaload, 1) := by decide +kernel
theorem dX5_keep_20 : decode cX5_keep 20 = .ok (.iastore, 1) := by decide +kernel
theorem dX5_keep_21 : decode cX5_keep 21 = .ok (.iinc 1 1, 3) := by decide +kernel
theorem dX5_keep_24 : decode cX5_keep 24 = .ok (.goto (-22), 3) := by decide +kernel
theorem dX5_keep_27 : decode cX5_keep 27 = .ok (.aload_n 0, 1) := by decide +kernel
theorem dX5_keep_28 : decode cX5_keep 28 = .ok (.invokevirtual 105, 3) := by decide +kernel
theorem dX5_keep_31 : decode cX5_keep 31 = .ok (.return_, 1) := by decide +kernel
theorem dX5_takeBack_0 : decode cX5_takeBack 0 = .ok (.iconst 0, 1) := by decide +kernel
theorem dX5_takeBack_1 : decode cX5_takeBack 1 = .ok (.istore_n 1, 1) := by decide +kernel
theorem dX5_takeBack_2 : decode cX5_takeBack 2 = .ok (.iload_n 1, 1) := by decide +kernel
theorem dX5_takeBack_3 : decode cX5_takeBack 3 = .ok (.sipush 159, 3) := by decide +kernel
theorem dX5_takeBack_6 : decode cX5_takeBack 6 = .ok (.if_icmp .ge 21, 3) := by decide +kernel
theorem dX5_takeBack_9 : decode cX5_takeBack 9 = .ok (.aload_n 0, 1) := by decide +kernel
theorem dX5_takeBack_10 : decode cX5_takeBack 10 = .ok (.getfield 7, 3) := by decide +kernel
theorem dX5_takeBack_13 : decode cX5_takeBack 13 = .ok (.iload_n 1, 1) := by decide +kernel
theorem dX5_takeBack_14 : decode cX5_takeBack 14 = .ok (.aload_n 0, 1) := by decide +kernel
theorem dX5_takeBack_15 : decode cX5_takeBack 15 = .ok (.getfield 13, 3) := by decide +kernel
theorem dX5_takeBack_18 : decode cX5_takeBack 18 = .ok (.iload_n 1, 1) := by decide +kernel
theorem dX5_takeBack_19 : decode cX5_takeBack 19 = .ok (.iaload, 1) := by decide +kernel
theorem dX5_takeBack_20 : decode cX5_takeBack 20 = .ok (.iastore, 1) := by decide +kernel
theorem dX5_takeBack_21 : decode cX5_takeBack 21 = .ok (.iinc 1 1, 3) := by decide +kernel
theorem dX5_takeBack_24 : decode cX5_takeBack 24 = .ok (.goto (-22), 3) := by decide +kernel
theorem dX5_takeBack_27 : decode cX5_takeBack 27 = .ok (.return_, 1) := by decide +kernel
set_option maxRecDepth 20000 in
theorem ggX5_ifLoaded_X5_within : GoodIn wsX5_ifLoaded wsX5_within := goodIn_r _ [10] (by decide +kernel) (by decide +kernel)
set_option maxRecDepth 20000 in
theorem gX5_ifLoaded_X5_within : GoodIn wsX5_ifLoaded (va_wsS RX5 91 yX5_within wsX5_within) := goodIn_app (goodIn_of _ (by decide +kernel)) ggX5_ifLoaded_X5_within
set_option maxRecDepth 20000 in
theorem ggX5_ifLoaded_X5_keep : GoodIn wsX5_ifLoaded wsX5_keep := goodIn_r _ [14, 15, 3, 16, 17, 18, 9, 19, 20, 4, 5, 6, 82, 83, 84, 85, 86, 87, 88, 89, 90, 91, 92, 93, 94, 95, 96] (by decide +kernel) (by decide +kernel)
set_option maxRecDepth 20000 in
theorem gX5_ifLoaded_X5_keep : GoodIn wsX5_ifLoaded (wsV RX5 160 RX5 yX5_keep wsX5_keep) := goodIn_app (goodIn_of _ (by decide +kernel)) ggX5_ifLoaded_X5_keep
set_option maxRecDepth 20000 in
theorem ggX5_ifLoaded_X5_cycle : GoodIn wsX5_ifLoaded wsX5_cycle := goodIn_r _ [24, 3, 20, 6, 25, 26, 27, 9, 28, 29, 30, 31, 32, 33, 34, 35, 36, 37, 38, 39, 40, 41, 42, 43, 44, 45, 46, 47, 48, 49, 50, 51, 52, 53, 54, 55, 56, 57, 58, 59, 60, 61, 4, 5, 62, 63, 64, 65, 66, 67, 68, 69, 70, 71, 72, 73, 74, 75, 76, 77, 82, 83, 84, 85, 86, 87, 88, 89, 90, 91, 92, 93, 94, 95, 96] (by decide +kernel) (by decide +kernel)
set_option maxRecDepth 20000 in
theorem gX5_ifLoaded_X5_cycle : GoodIn wsX5_ifLoaded (wsV RX5 108 RX5 yX5_cycle wsX5_cycle) := goodIn_app (goodIn_of _ (by decide +kernel)) ggX5_ifLoaded_X5_cycle
set_option maxRecDepth 20000 in
theorem ggX5_ifLoaded_X5_takeBack : GoodIn wsX5_ifLoaded wsX5_takeBack := goodIn_r _ [81, 3, 15, 82, 83, 84, 85, 86, 87, 88, 89, 90, 91, 92, 93, 94, 95, 96] (by decide +kernel) (by decide +kernel)
set_option maxRecDepth 20000 in
theorem gX5_ifLoaded_X5_takeBack : GoodIn wsX5_ifLoaded (wsV RX5 163 RX5 yX5_takeBack wsX5_takeBack) := goodIn_app (goodIn_of _ (by decide +kernel)) ggX5_ifLoaded_X5_takeBack
theorem dX5_ifLoaded_0 : decode cX5_ifLoaded 0 = .ok (.aload_n 0, 1) := by decide +kernel
theorem dX5_ifLoaded_1 : decode cX5_ifLoaded 1 = .ok (.iload_n 1, 1) := by decide +kernel
theorem dX5_ifLoaded_2 : decode cX5_ifLoaded 2 = .ok (.iconst 0, 1) := by decide +kernel
theorem dX5_ifLoaded_3 : decode cX5_ifLoaded 3 = .ok (.ldc 30, 2) := by decide +kernel
theorem dX5_ifLoaded_5 : decode cX5_ifLoaded 5 = .ok (.invokestatic 91, 3) := by decide +kernel
theorem dX5_ifLoaded_8 : decode cX5_ifLoaded 8 = .ok (.ifCond .eq 26, 3) := by decide +kernel
theorem dX5_ifLoaded_11 : decode cX5_ifLoaded 11 = .ok (.iload_n 2, 1) := by decide +kernel
theorem dX5_ifLoaded_12 : decode cX5_ifLoaded 12 = .ok (.iconst 1, 1) := by decide +kernel
theorem dX5_ifLoaded_13 : decode cX5_ifLoaded 13 = .ok (.bipush 100, 2) := by decide +kernel
theorem dX5_ifLoaded_15 : decode cX5_ifLoaded 15 = .ok (.invokestatic 91, 3) := by decide +kernel
theorem dX5_ifLoaded_18 : decode cX5_ifLoaded 18 = .ok (.ifCond .eq 16, 3) := by decide +kernel
theorem dX5_ifLoaded_21 : decode cX5_ifLoaded 21 = .ok (.iload_n 3, 1) := by decide +kernel
theorem dX5_ifLoaded_22 : decode cX5_ifLoaded 22 = .ok (.iconst 0, 1) := by decide +kernel
theorem dX5_ifLoaded_23 : decode cX5_ifLoaded 23 = .ok (.iconst 5, 1) := by decide +kernel
theorem dX5_ifLoaded_24 : decode cX5_ifLoaded 24 = .ok (.invokestatic 91, 3) := by decide +kernel
theorem dX5_ifLoaded_27 : decode cX5_ifLoaded 27 = .ok (.ifCond .eq 7, 3) := by decide +kernel
theorem dX5_ifLoaded_30 : decode cX5_ifLoaded 30 = .ok (.iconst 0, 1) := by decide +kernel
theorem dX5_ifLoaded_31 : decode cX5_ifLoaded 31 = .ok (.goto 4, 3) := by decide +kernel
theorem dX5_ifLoaded_34 : decode cX5_ifLoaded 34 = .ok (.iconst 1, 1) := by decide +kernel
theorem dX5_ifLoaded_35 : decode cX5_ifLoaded 35 = .ok (.putfield 26, 3) := by decide +kernel
theorem dX5_ifLoaded_38 : decode cX5_ifLoaded 38 = .ok (.aload_n 0, 1) := by decide +kernel
theorem dX5_ifLoaded_39 : decode cX5_ifLoaded 39 = .ok (.getfield 26, 3) := by decide +kernel
theorem dX5_ifLoaded_42 : decode cX5_ifLoaded 42 = .ok (.ifCond .le 5, 3) := by decide +kernel
theorem dX5_ifLoaded_45 : decode cX5_ifLoaded 45 = .ok (.iconst 0, 1) := by decide +kernel
theorem dX5_ifLoaded_46 : decode cX5_ifLoaded 46 = .ok (.ireturn, 1) := by decide +kernel
theorem dX5_ifLoaded_47 : decode cX5_ifLoaded 47 = .ok (.aload_n 0, 1) := by decide +kernel
theorem dX5_ifLoaded_48 : decode cX5_ifLoaded 48 = .ok (.invokevirtual 160, 3) := by decide +kernel
theorem dX5_ifLoaded_51 : decode cX5_ifLoaded 51 = .ok (.aload_n 0, 1) := by decide +kernel
theorem dX5_ifLoaded_52 : decode cX5_ifLoaded 52 = .ok (.getfield 7, 3) := by decide +kernel
theorem dX5_ifLoaded_55 : decode cX5_ifLoaded 55 = .ok (.iconst 2, 1) := by decide +kernel
theorem dX5_ifLoaded_56 : decode cX5_ifLoaded 56 = .ok (.iload_n 1, 1) := by decide +kernel
theorem dX5_ifLoaded_57 : decode cX5_ifLoaded 57 = .ok (.iastore, 1) := by decide +kernel
theorem dX5_ifLoaded_58 : decode cX5_ifLoaded 58 = .ok (.iconst 0, 1) := by decide +kernel
theorem dX5_ifLoaded_59 : decode cX5_ifLoaded 59 = .ok (.istore 4, 2) := by decide +kernel
theorem dX5_ifLoaded_61 : decode cX5_ifLoaded 61 = .ok (.iload 4, 2) := by decide +kernel
theorem dX5_ifLoaded_63 : decode cX5_ifLoaded 63 = .ok (.iload_n 2, 1) := by decide +kernel
theorem dX5_ifLoaded_64 : decode cX5_ifLoaded 64 = .ok (.if_icmp .ge 13, 3) := by decide +kernel
theorem dX5_ifLoaded_67 : decode cX5_ifLoaded 67 = .ok (.aload_n 0, 1) := by decide +kernel
theorem dX5_ifLoaded_68 : decode cX5_ifLoaded 68 = .ok (.invokevirtual 108, 3) := by decide +kernel
theorem dX5_ifLoaded_71 : decode cX5_ifLoaded 71 = .ok (.iinc 4 1, 3) := by decide +kernel
theorem dX5_ifLoaded_74 : decode cX5_ifLoaded 74 = .ok (.goto (-13), 3) := by decide +kernel
theorem dX5_ifLoaded_77 : decode cX5_ifLoaded 77 = .ok (.iload_n 3, 1) := by decide +kernel
theorem dX5_ifLoaded_78 : decode cX5_ifLoaded 78 = .ok (.ifCond .ne 13, 3) := by decide +kernel
theorem dX5_ifLoaded_81 : decode cX5_ifLoaded 81 = .ok (.aload_n 0, 1) := by decide +kernel
theorem dX5_ifLoaded_82 : decode cX5_ifLoaded 82 = .ok (.getfield 7, 3) := by decide +kernel
theorem dX5_ifLoaded_85 : decode cX5_ifLoaded 85 = .ok (.bipush 17, 2) := by decide +kernel
theorem dX5_ifLoaded_87 : decode cX5_ifLoaded 87 = .ok (.iaload, 1) := by decide +kernel
theorem dX5_ifLoaded_88 : decode cX5_ifLoaded 88 = .ok (.goto 61, 3) := by decide +kernel
theorem dX5_ifLoaded_91 : decode cX5_ifLoaded 91 = .ok (.iload_n 3, 1) := by decide +kernel
theorem dX5_ifLoaded_92 : decode cX5_ifLoaded 92 = .ok (.iconst 1, 1) := by decide +kernel
theorem dX5_ifLoaded_93 : decode cX5_ifLoaded 93 = .ok (.if_icmp .ne 10, 3) := by decide +kernel
theorem dX5_ifLoaded_96 : decode cX5_ifLoaded 96 = .ok (.aload_n 0, 1) := by decide +kernel
theorem dX5_ifLoaded_97 : decode cX5_ifLoaded 97 = .ok (.getfield 69, 3) := by decide +kernel
theorem dX5_ifLoaded_100 : decode cX5_ifLoaded 100 = .ok (.goto 49, 3) := by decide +kernel
theorem dX5_ifLoaded_103 : decode cX5_ifLoaded 103 = .ok (.iload_n 3, 1) := by decide +kernel
theorem dX5_ifLoaded_104 : decode cX5_ifLoaded 104 = .ok (.iconst 2, 1) := by decide +kernel
theorem dX5_ifLoaded_105 : decode cX5_ifLoaded 105 = .ok (.if_icmp .ne 10, 3) := by decide +kernel
theorem dX5_ifLoaded_108 : decode cX5_ifLoaded 108 = .ok (.aload_n 0, 1) := by decide +kernel
theorem dX5_ifLoaded_109 : decode cX5_ifLoaded 109 = .ok (.getfield 72, 3) := by decide +kernel
theorem dX5_ifLoaded_112 : decode cX5_ifLoaded 112 = .ok (.goto 37, 3) := by decide +kernel
theorem dX5_ifLoaded_115 : decode cX5_ifLoaded 115 = .ok (.iload_n 3, 1) := by decide +kernel
theorem dX5_ifLoaded_116 : decode cX5_ifLoaded 116 = .ok (.iconst 3, 1) := by decide +kernel
theorem dX5_ifLoaded_117 : decode cX5_ifLoaded 117 = .ok (.if_icmp .ne 13, 3) := by decide +kernel
theorem dX5_ifLoaded_120 : decode cX5_ifLoaded 120 = .ok (.aload_n 0, 1) := by decide +kernel
theorem dX5_ifLoaded_121 : decode cX5_ifLoaded 121 = .ok (.getfield 7, 3) := by decide +kernel
theorem dX5_ifLoaded_124 : decode cX5_ifLoaded 124 = .ok (.bipush 20, 2) := by decide +kernel
theorem dX5_ifLoaded_126 : decode cX5_ifLoaded 126 = .ok (.iaload, 1) := by decide +kernel
theorem dX5_ifLoaded_127 : decode cX5_ifLoaded 127 = .ok (.goto 22, 3) := by decide +kernel
theorem dX5_ifLoaded_130 : decode cX5_ifLoaded 130 = .ok (.iload_n 3, 1) := by decide +kernel
theorem dX5_ifLoaded_131 : decode cX5_ifLoaded 131 = .ok (.iconst 4, 1) := by decide +kernel
theorem dX5_ifLoaded_132 : decode cX5_ifLoaded 132 = .ok (.if_icmp .ne 13, 3) := by decide +kernel
theorem dX5_ifLoaded_135 : decode cX5_ifLoaded 135 = .ok (.aload_n 0, 1) := by decide +kernel
theorem dX5_ifLoaded_136 : decode cX5_ifLoaded 136 = .ok (.getfield 7, 3) := by decide +kernel
theorem dX5_ifLoaded_139 : decode cX5_ifLoaded 139 = .ok (.bipush 16, 2) := by decide +kernel
theorem dX5_ifLoaded_141 : decode cX5_ifLoaded 141 = .ok (.iaload, 1) := by decide +kernel
theorem dX5_ifLoaded_142 : decode cX5_ifLoaded 142 = .ok (.goto 7, 3) := by decide +kernel
theorem dX5_ifLoaded_145 : decode cX5_ifLoaded 145 = .ok (.aload_n 0, 1) := by decide +kernel
theorem dX5_ifLoaded_146 : decode cX5_ifLoaded 146 = .ok (.getfield 62, 3) := by decide +kernel
theorem dX5_ifLoaded_149 : decode cX5_ifLoaded 149 = .ok (.istore 4, 2) := by decide +kernel
theorem dX5_ifLoaded_151 : decode cX5_ifLoaded 151 = .ok (.aload_n 0, 1) := by decide +kernel
theorem dX5_ifLoaded_152 : decode cX5_ifLoaded 152 = .ok (.invokevirtual 163, 3) := by decide +kernel
theorem dX5_ifLoaded_155 : decode cX5_ifLoaded 155 = .ok (.iload 4, 2) := by decide +kernel
theorem dX5_ifLoaded_157 : decode cX5_ifLoaded 157 = .ok (.ireturn, 1) := by decide +kernel
set_option maxRecDepth 20000 in
theorem ggX5_settledAt_X5_keep : GoodIn wsX5_settledAt wsX5_keep := goodIn_r _ [6, 7, 1, 8, 9, 10, 5, 11, 12, 13, 14, 15, 80, 81, 82, 83, 84, 85, 86, 87, 88, 89, 90, 91, 92, 93, 94] (by decide +kernel) (by decide +kernel)
set_option maxRecDepth 20000 in
theorem gX5_settledAt_X5_keep : GoodIn wsX5_settledAt (wsV RX5 160 RX5 yX5_keep wsX5_keep) := goodIn_app (goodIn_of _ (by decide +kernel)) ggX5_settledAt_X5_keep
set_option maxRecDepth 20000 in
theorem ggX5_settledAt_X5_cycle : GoodIn wsX5_settledAt wsX5_cycle := goodIn_r _ [19, 1, 12, 15, 20, 21, 22, 5, 23, 24, 25, 26, 27, 28, 29, 30, 31, 32, 33, 34, 35, 36, 37, 38, 39, 40, 41, 42, 43, 44, 45, 46, 47, 48, 49, 50, 51, 52, 53, 54, 55, 56, 13, 14, 57, 58, 59, 60, 61, 62, 63, 64, 65, 66, 67, 68, 69, 70, 71, 72, 80, 81, 82, 83, 84, 85, 86, 87, 88, 89, 90, 91, 92, 93, 94] (by decide +kernel) (by decide +kernel)
set_option maxRecDepth 20000 in
theorem gX5_settledAt_X5_cycle : GoodIn wsX5_settledAt (wsV RX5 108 RX5 yX5_cycle wsX5_cycle) := goodIn_app (goodIn_of _ (by decide +kernel)) ggX5_settledAt_X5_cycle
set_option maxRecDepth 20000 in
theorem ggX5_settledAt_X5_within : GoodIn wsX5_settledAt wsX5_within := goodIn_r _ [75] (by decide +kernel) (by decide +kernel)
set_option maxRecDepth 20000 in
theorem gX5_settledAt_X5_within : GoodIn wsX5_settledAt (va_wsS RX5 91 yX5_within wsX5_within) := goodIn_app (goodIn_of _ (by decide +kernel)) ggX5_settledAt_X5_within
set_option maxRecDepth 20000 in
theorem ggX5_settledAt_X5_takeBack : GoodIn wsX5_settledAt wsX5_takeBack := goodIn_r _ [79, 1, 7, 80, 81, 82, 83, 84, 85, 86, 87, 88, 89, 90, 91, 92, 93, 94] (by decide +kernel) (by decide +kernel)
set_option maxRecDepth 20000 in
theorem gX5_settledAt_X5_takeBack : GoodIn wsX5_settledAt (wsV RX5 163 RX5 yX5_takeBack wsX5_takeBack) := goodIn_app (goodIn_of _ (by decide +kernel)) ggX5_settledAt_X5_takeBack
theorem dX5_settledAt_0 : decode cX5_settledAt 0 = .ok (.aload_n 0, 1) := by decide +kernel
theorem dX5_settledAt_1 : decode cX5_settledAt 1 = .ok (.invokevirtual 160, 3) := by decide +kernel
theorem dX5_settledAt_4 : decode cX5_settledAt 4 = .ok (.iconst 0, 1) := by decide +kernel
theorem dX5_settledAt_5 : decode cX5_settledAt 5 = .ok (.istore_n 2, 1) := by decide +kernel
theorem dX5_settledAt_6 : decode cX5_settledAt 6 = .ok (.iconst 0, 1) := by decide +kernel
theorem dX5_settledAt_7 : decode cX5_settledAt 7 = .ok (.istore_n 3, 1) := by decide +kernel
theorem dX5_settledAt_8 : decode cX5_settledAt 8 = .ok (.iload_n 3, 1) := by decide +kernel
theorem dX5_settledAt_9 : decode cX5_settledAt 9 = .ok (.sipush 202, 3) := by decide +kernel
theorem dX5_settledAt_12 : decode cX5_settledAt 12 = .ok (.if_icmp .ge 49, 3) := by decide +kernel
theorem dX5_settledAt_15 : decode cX5_settledAt 15 = .ok (.iload_n 2, 1) := by decide +kernel
theorem dX5_settledAt_16 : decode cX5_settledAt 16 = .ok (.iconst 3, 1) := by decide +kernel
theorem dX5_settledAt_17 : decode cX5_settledAt 17 = .ok (.if_icmp .ge 44, 3) := by decide +kernel
theorem dX5_settledAt_20 : decode cX5_settledAt 20 = .ok (.aload_n 0, 1) := by decide +kernel
theorem dX5_settledAt_21 : decode cX5_settledAt 21 = .ok (.invokevirtual 108, 3) := by decide +kernel
theorem dX5_settledAt_24 : decode cX5_settledAt 24 = .ok (.iinc 3 1, 3) := by decide +kernel
theorem dX5_settledAt_27 : decode cX5_settledAt 27 = .ok (.aload_n 0, 1) := by decide +kernel
theorem dX5_settledAt_28 : decode cX5_settledAt 28 = .ok (.getfield 7, 3) := by decide +kernel
theorem dX5_settledAt_31 : decode cX5_settledAt 31 = .ok (.bipush 17, 2) := by decide +kernel
theorem dX5_settledAt_33 : decode cX5_settledAt 33 = .ok (.iaload, 1) := by decide +kernel
theorem dX5_settledAt_34 : decode cX5_settledAt 34 = .ok (.aload_n 0, 1) := by decide +kernel
theorem dX5_settledAt_35 : decode cX5_settledAt 35 = .ok (.getfield 7, 3) := by decide +kernel
theorem dX5_settledAt_38 : decode cX5_settledAt 38 = .ok (.iconst 1, 1) := by decide +kernel
theorem dX5_settledAt_39 : decode cX5_settledAt 39 = .ok (.iaload, 1) := by decide +kernel
theorem dX5_settledAt_40 : decode cX5_settledAt 40 = .ok (.isub, 1) := by decide +kernel
theorem dX5_settledAt_41 : decode cX5_settledAt 41 = .ok (.iload_n 1, 1) := by decide +kernel
theorem dX5_settledAt_42 : decode cX5_settledAt 42 = .ok (.ineg, 1) := by decide +kernel
theorem dX5_settledAt_43 : decode cX5_settledAt 43 = .ok (.iload_n 1, 1) := by decide +kernel
theorem dX5_settledAt_44 : decode cX5_settledAt 44 = .ok (.invokestatic 91, 3) := by decide +kernel
theorem dX5_settledAt_47 : decode cX5_settledAt 47 = .ok (.ifCond .eq 9, 3) := by decide +kernel
theorem dX5_settledAt_50 : decode cX5_settledAt 50 = .ok (.iload_n 2, 1) := by decide +kernel
theorem dX5_settledAt_51 : decode cX5_settledAt 51 = .ok (.iconst 1, 1) := by decide +kernel
theorem dX5_settledAt_52 : decode cX5_settledAt 52 = .ok (.iadd, 1) := by decide +kernel
theorem dX5_settledAt_53 : decode cX5_settledAt 53 = .ok (.goto 4, 3) := by decide +kernel
theorem dX5_settledAt_56 : decode cX5_settledAt 56 = .ok (.iconst 0, 1) := by decide +kernel
theorem dX5_settledAt_57 : decode cX5_settledAt 57 = .ok (.istore_n 2, 1) := by decide +kernel
theorem dX5_settledAt_58 : decode cX5_settledAt 58 = .ok (.goto (-50), 3) := by decide +kernel
theorem dX5_settledAt_61 : decode cX5_settledAt 61 = .ok (.aload_n 0, 1) := by decide +kernel
theorem dX5_settledAt_62 : decode cX5_settledAt 62 = .ok (.invokevirtual 163, 3) := by decide +kernel
theorem dX5_settledAt_65 : decode cX5_settledAt 65 = .ok (.iload_n 2, 1) := by decide +kernel
theorem dX5_settledAt_66 : decode cX5_settledAt 66 = .ok (.iconst 3, 1) := by decide +kernel
theorem dX5_settledAt_67 : decode cX5_settledAt 67 = .ok (.if_icmp .ne 9, 3) := by decide +kernel
theorem dX5_settledAt_70 : decode cX5_settledAt 70 = .ok (.iload_n 3, 1) := by decide +kernel
theorem dX5_settledAt_71 : decode cX5_settledAt 71 = .ok (.iconst 2, 1) := by decide +kernel
theorem dX5_settledAt_72 : decode cX5_settledAt 72 = .ok (.isub, 1) := by decide +kernel
theorem dX5_settledAt_73 : decode cX5_settledAt 73 = .ok (.goto 4, 3) := by decide +kernel
theorem dX5_settledAt_76 : decode cX5_settledAt 76 = .ok (.iconst (-1), 1) := by decide +kernel
theorem dX5_settledAt_77 : decode cX5_settledAt 77 = .ok (.ireturn, 1) := by decide +kernel
set_option maxRecDepth 20000 in
theorem ggX5_settles_X5_within : GoodIn wsX5_settles wsX5_within := goodIn_r _ [5] (by decide +kernel) (by decide +kernel)
set_option maxRecDepth 20000 in
theorem gX5_settles_X5_within : GoodIn wsX5_settles (va_wsS RX5 91 yX5_within wsX5_within) := goodIn_app (goodIn_of _ (by decide +kernel)) ggX5_settles_X5_within
set_option maxRecDepth 20000 in
theorem ggX5_settles_X5_settledAt : GoodIn wsX5_settles wsX5_settledAt := goodIn_r _ [9, 10, 11, 12, 13, 4, 14, 15, 16, 17, 18, 19, 20, 21, 22, 23, 24, 25, 26, 27, 28, 29, 30, 31, 32, 33, 34, 35, 36, 37, 38, 39, 40, 41, 42, 43, 44, 45, 46, 47, 48, 49, 50, 51, 52, 53, 54, 55, 56, 57, 58, 59, 60, 61, 62, 63, 64, 65, 66, 67, 68, 69, 70, 71, 72, 73, 74, 75, 76, 77, 78, 79, 80, 2, 3, 5, 81, 82, 83, 84, 85, 86, 87, 88, 89, 90, 91, 92, 93, 94, 95, 96, 97, 98, 99] (by decide +kernel) (by decide +kernel)
set_option maxRecDepth 20000 in
theorem gX5_settles_X5_settledAt : GoodIn wsX5_settles (wsV RX5 166 RX5 yX5_settledAt wsX5_settledAt) := goodIn_app (goodIn_of _ (by decide +kernel)) ggX5_settles_X5_settledAt
theorem dX5_settles_0 : decode cX5_settles 0 = .ok (.aload_n 0, 1) := by decide +kernel
theorem dX5_settles_1 : decode cX5_settles 1 = .ok (.iload_n 1, 1) := by decide +kernel
theorem dX5_settles_2 : decode cX5_settles 2 = .ok (.iconst 0, 1) := by decide +kernel
theorem dX5_settles_3 : decode cX5_settles 3 = .ok (.sipush 5000, 3) := by decide +kernel
theorem dX5_settles_6 : decode cX5_settles 6 = .ok (.invokestatic 91, 3) := by decide +kernel
theorem dX5_settles_9 : decode cX5_settles 9 = .ok (.ifCond .eq 7, 3) := by decide +kernel
theorem dX5_settles_12 : decode cX5_settles 12 = .ok (.iconst 0, 1) := by decide +kernel
theorem dX5_settles_13 : decode cX5_settles 13 = .ok (.goto 4, 3) := by decide +kernel
theorem dX5_settles_16 : decode cX5_settles 16 = .ok (.iconst 1, 1) := by decide +kernel
theorem dX5_settles_17 : decode cX5_settles 17 = .ok (.putfield 26, 3) := by decide +kernel
theorem dX5_settles_20 : decode cX5_settles 20 = .ok (.aload_n 0, 1) := by decide +kernel
theorem dX5_settles_21 : decode cX5_settles 21 = .ok (.getfield 26, 3) := by decide +kernel
theorem dX5_settles_24 : decode cX5_settles 24 = .ok (.ifCond .le 7, 3) := by decide +kernel
theorem dX5_settles_27 : decode cX5_settles 27 = .ok (.iconst 0, 1) := by decide +kernel
theorem dX5_settles_28 : decode cX5_settles 28 = .ok (.goto 8, 3) := by decide +kernel
theorem dX5_settles_31 : decode cX5_settles 31 = .ok (.aload_n 0, 1) := by decide +kernel
theorem dX5_settles_32 : decode cX5_settles 32 = .ok (.iload_n 1, 1) := by decide +kernel
theorem dX5_settles_33 : decode cX5_settles 33 = .ok (.invokevirtual 166, 3) := by decide +kernel
theorem dX5_settles_36 : decode cX5_settles 36 = .ok (.ireturn, 1) := by decide +kernel
set_option maxRecDepth 20000 in
theorem ggX5_holds_X5_keep : GoodIn wsX5_holds wsX5_keep := goodIn_r _ [7, 8, 1, 9, 10, 11, 6, 12, 13, 2, 14, 15, 77, 78, 79, 80, 81, 82, 83, 84, 85, 86, 87, 88, 89, 90, 91] (by decide +kernel) (by decide +kernel)
set_option maxRecDepth 20000 in
theorem gX5_holds_X5_keep : GoodIn wsX5_holds (wsV RX5 160 RX5 yX5_keep wsX5_keep) := goodIn_app (goodIn_of _ (by decide +kernel)) ggX5_holds_X5_keep
set_option maxRecDepth 20000 in
theorem ggX5_holds_X5_cycle : GoodIn wsX5_holds wsX5_cycle := goodIn_r _ [19, 1, 13, 15, 20, 21, 22, 6, 23, 24, 25, 26, 27, 28, 29, 30, 31, 32, 33, 34, 35, 36, 37, 38, 39, 40, 41, 42, 43, 44, 45, 46, 47, 48, 49, 50, 51, 52, 53, 54, 55, 56, 2, 14, 57, 58, 59, 60, 61, 62, 63, 64, 65, 66, 67, 68, 69, 70, 71, 72, 77, 78, 79, 80, 81, 82, 83, 84, 85, 86, 87, 88, 89, 90, 91] (by decide +kernel) (by decide +kernel)
set_option maxRecDepth 20000 in
theorem gX5_holds_X5_cycle : GoodIn wsX5_holds (wsV RX5 108 RX5 yX5_cycle wsX5_cycle) := goodIn_app (goodIn_of _ (by decide +kernel)) ggX5_holds_X5_cycle
set_option maxRecDepth 20000 in
theorem ggX5_holds_X5_takeBack : GoodIn wsX5_holds wsX5_takeBack := goodIn_r _ [76, 1, 8, 77, 78, 79, 80, 81, 82, 83, 84, 85, 86, 87, 88, 89, 90, 91] (by decide +kernel) (by decide +kernel)
set_option maxRecDepth 20000 in
theorem gX5_holds_X5_takeBack : GoodIn wsX5_holds (wsV RX5 163 RX5 yX5_takeBack wsX5_takeBack) := goodIn_app (goodIn_of _ (by decide +kernel)) ggX5_holds_X5_takeBack
theorem dX5_holds_0 : decode cX5_holds 0 = .ok (.aload_n 0, 1) := by decide +kernel
theorem dX5_holds_1 : decode cX5_holds 1 = .ok (.invokevirtual 160, 3) := by decide +kernel
theorem dX5_holds_4 : decode cX5_holds 4 = .ok (.aload_n 0, 1) := by decide +kernel
theorem dX5_holds_5 : decode cX5_holds 5 = .ok (.getfield 7, 3) := by decide +kernel
theorem dX5_holds_8 : decode cX5_holds 8 = .ok (.iconst 2, 1) := by decide +kernel
theorem dX5_holds_9 : decode cX5_holds 9 = .ok (.iload_n 1, 1) := by decide +kernel
theorem dX5_holds_10 : decode cX5_holds 10 = .ok (.iastore, 1) := by decide +kernel
theorem dX5_holds_11 : decode cX5_holds 11 = .ok (.iconst 0, 1) := by decide +kernel
theorem dX5_holds_12 : decode cX5_holds 12 = .ok (.istore_n 3, 1) := by decide +kernel
theorem dX5_holds_13 : decode cX5_holds 13 = .ok (.iload_n 3, 1) := by decide +kernel
theorem dX5_holds_14 : decode cX5_holds 14 = .ok (.bipush 30, 2) := by decide +kernel
theorem dX5_holds_16 : decode cX5_holds 16 = .ok (.if_icmp .ge 13, 3) := by decide +kernel
theorem dX5_holds_19 : decode cX5_holds 19 = .ok (.aload_n 0, 1) := by decide +kernel
theorem dX5_holds_20 : decode cX5_holds 20 = .ok (.invokevirtual 108, 3) := by decide +kernel
theorem dX5_holds_23 : decode cX5_holds 23 = .ok (.iinc 3 1, 3) := by decide +kernel
theorem dX5_holds_26 : decode cX5_holds 26 = .ok (.goto (-13), 3) := by decide +kernel
theorem dX5_holds_29 : decode cX5_holds 29 = .ok (.aload_n 0, 1) := by decide +kernel
theorem dX5_holds_30 : decode cX5_holds 30 = .ok (.invokevirtual 163, 3) := by decide +kernel
theorem dX5_holds_33 : decode cX5_holds 33 = .ok (.aload_n 0, 1) := by decide +kernel
theorem dX5_holds_34 : decode cX5_holds 34 = .ok (.getfield 69, 3) := by decide +kernel
theorem dX5_holds_37 : decode cX5_holds 37 = .ok (.iload_n 2, 1) := by decide +kernel
theorem dX5_holds_38 : decode cX5_holds 38 = .ok (.if_icmp .lt 7, 3) := by decide +kernel
theorem dX5_holds_41 : decode cX5_holds 41 = .ok (.iconst 1, 1) := by decide +kernel
theorem dX5_holds_42 : decode cX5_holds 42 = .ok (.goto 4, 3) := by decide +kernel
theorem dX5_holds_45 : decode cX5_holds 45 = .ok (.iconst 0, 1) := by decide +kernel
theorem dX5_holds_46 : decode cX5_holds 46 = .ok (.ireturn, 1) := by decide +kernel
set_option maxRecDepth 20000 in
theorem ggX5_greatestLoad_X5_within : GoodIn wsX5_greatestLoad wsX5_within := goodIn_r _ [6] (by decide +kernel) (by decide +kernel)
set_option maxRecDepth 20000 in
theorem gX5_greatestLoad_X5_within : GoodIn wsX5_greatestLoad (va_wsS RX5 91 yX5_within wsX5_within) := goodIn_app (goodIn_of _ (by decide +kernel)) ggX5_greatestLoad_X5_within
set_option maxRecDepth 20000 in
theorem ggX5_greatestLoad_X5_holds : GoodIn wsX5_greatestLoad wsX5_holds := goodIn_r _ [10, 11, 12, 13, 14, 15, 5, 16, 17, 18, 19, 20, 21, 22, 23, 24, 25, 26, 27, 28, 29, 30, 31, 32, 33, 34, 35, 36, 37, 38, 39, 40, 41, 42, 43, 44, 45, 46, 47, 48, 49, 50, 51, 52, 53, 54, 55, 56, 57, 58, 59, 60, 61, 62, 63, 64, 1, 65, 66, 67, 68, 69, 70, 71, 72, 73, 74, 75, 76, 77, 78, 79, 80, 81, 82, 83, 84, 85, 86, 87, 88, 89, 90, 91, 92, 93, 94, 95, 96, 97, 98, 99] (by decide +kernel) (by decide +kernel)
set_option maxRecDepth 20000 in
theorem gX5_greatestLoad_X5_holds : GoodIn wsX5_greatestLoad (wsV RX5 169 RX5 yX5_holds wsX5_holds) := goodIn_app (goodIn_of _ (by decide +kernel)) ggX5_greatestLoad_X5_holds
theorem dX5_greatestLoad_0 : decode cX5_greatestLoad 0 = .ok (.aload_n 0, 1) := by decide +kernel
theorem dX5_greatestLoad_1 : decode cX5_greatestLoad 1 = .ok (.iload_n 1, 1) := by decide +kernel
theorem dX5_greatestLoad_2 : decode cX5_greatestLoad 2 = .ok (.iconst 0, 1) := by decide +kernel
theorem dX5_greatestLoad_3 : decode cX5_greatestLoad 3 = .ok (.ldc 65, 2) := by decide +kernel
theorem dX5_greatestLoad_5 : decode cX5_greatestLoad 5 = .ok (.invokestatic 91, 3) := by decide +kernel
theorem dX5_greatestLoad_8 : decode cX5_greatestLoad 8 = .ok (.ifCond .eq 7, 3) := by decide +kernel
theorem dX5_greatestLoad_11 : decode cX5_greatestLoad 11 = .ok (.iconst 0, 1) := by decide +kernel
theorem dX5_greatestLoad_12 : decode cX5_greatestLoad 12 = .ok (.goto 4, 3) := by decide +kernel
theorem dX5_greatestLoad_15 : decode cX5_greatestLoad 15 = .ok (.iconst 1, 1) := by decide +kernel
theorem dX5_greatestLoad_16 : decode cX5_greatestLoad 16 = .ok (.putfield 26, 3) := by decide +kernel
theorem dX5_greatestLoad_19 : decode cX5_greatestLoad 19 = .ok (.aload_n 0, 1) := by decide +kernel
theorem dX5_greatestLoad_20 : decode cX5_greatestLoad 20 = .ok (.getfield 26, 3) := by decide +kernel
theorem dX5_greatestLoad_23 : decode cX5_greatestLoad 23 = .ok (.ifCond .le 5, 3) := by decide +kernel
theorem dX5_greatestLoad_26 : decode cX5_greatestLoad 26 = .ok (.iconst 0, 1) := by decide +kernel
theorem dX5_greatestLoad_27 : decode cX5_greatestLoad 27 = .ok (.ireturn, 1) := by decide +kernel
theorem dX5_greatestLoad_28 : decode cX5_greatestLoad 28 = .ok (.sipush 20000, 3) := by decide +kernel
theorem dX5_greatestLoad_31 : decode cX5_greatestLoad 31 = .ok (.istore_n 2, 1) := by decide +kernel
theorem dX5_greatestLoad_32 : decode cX5_greatestLoad 32 = .ok (.iload_n 2, 1) := by decide +kernel
theorem dX5_greatestLoad_33 : decode cX5_greatestLoad 33 = .ok (.ifCond .lt 21, 3) := by decide +kernel
theorem dX5_greatestLoad_36 : decode cX5_greatestLoad 36 = .ok (.aload_n 0, 1) := by decide +kernel
theorem dX5_greatestLoad_37 : decode cX5_greatestLoad 37 = .ok (.iload_n 2, 1) := by decide +kernel
theorem dX5_greatestLoad_38 : decode cX5_greatestLoad 38 = .ok (.iload_n 1, 1) := by decide +kernel
theorem dX5_greatestLoad_39 : decode cX5_greatestLoad 39 = .ok (.invokevirtual 169, 3) := by decide +kernel
theorem dX5_greatestLoad_42 : decode cX5_greatestLoad 42 = .ok (.ifCond .ne 12, 3) := by decide +kernel
theorem dX5_greatestLoad_45 : decode cX5_greatestLoad 45 = .ok (.iinc 2 (-500), 6) := by decide +kernel
theorem dX5_greatestLoad_51 : decode cX5_greatestLoad 51 = .ok (.goto (-19), 3) := by decide +kernel
theorem dX5_greatestLoad_54 : decode cX5_greatestLoad 54 = .ok (.iload_n 2, 1) := by decide +kernel
theorem dX5_greatestLoad_55 : decode cX5_greatestLoad 55 = .ok (.ifCond .lt 7, 3) := by decide +kernel
theorem dX5_greatestLoad_58 : decode cX5_greatestLoad 58 = .ok (.iload_n 2, 1) := by decide +kernel
theorem dX5_greatestLoad_59 : decode cX5_greatestLoad 59 = .ok (.goto 4, 3) := by decide +kernel
theorem dX5_greatestLoad_62 : decode cX5_greatestLoad 62 = .ok (.iconst (-1), 1) := by decide +kernel
theorem dX5_greatestLoad_63 : decode cX5_greatestLoad 63 = .ok (.ireturn, 1) := by decide +kernel
set_option maxRecDepth 20000 in
theorem ggX5_unlike_X5_at : GoodIn wsX5_unlike wsX5_at := goodIn_r _ [5] (by decide +kernel) (by decide +kernel)
set_option maxRecDepth 20000 in
theorem gX5_unlike_X5_at : GoodIn wsX5_unlike (va_wsS RX5 35 yX5_at wsX5_at) := goodIn_app (goodIn_of _ (by decide +kernel)) ggX5_unlike_X5_at
theorem dX5_unlike_0 : decode cX5_unlike 0 = .ok (.aload_n 0, 1) := by decide +kernel
theorem dX5_unlike_1 : decode cX5_unlike 1 = .ok (.getfield 7, 3) := by decide +kernel
theorem dX5_unlike_4 : decode cX5_unlike 4 = .ok (.iconst 0, 1) := by decide +kernel
theorem dX5_unlike_5 : decode cX5_unlike 5 = .ok (.iconst 0, 1) := by decide +kernel
theorem dX5_unlike_6 : decode cX5_unlike 6 = .ok (.invokestatic 35, 3) := by decide +kernel
theorem dX5_unlike_9 : decode cX5_unlike 9 = .ok (.iaload, 1) := by decide +kernel
theorem dX5_unlike_10 : decode cX5_unlike 10 = .ok (.istore_n 1, 1) := by decide +kernel
theorem dX5_unlike_11 : decode cX5_unlike 11 = .ok (.iload_n 1, 1) := by decide +kernel
theorem dX5_unlike_12 : decode cX5_unlike 12 = .ok (.istore_n 2, 1) := by decide +kernel
theorem dX5_unlike_13 : decode cX5_unlike 13 = .ok (.iconst 1, 1) := by decide +kernel
theorem dX5_unlike_14 : decode cX5_unlike 14 = .ok (.istore_n 3, 1) := by decide +kernel
theorem dX5_unlike_15 : decode cX5_unlike 15 = .ok (.iload_n 3, 1) := by decide +kernel
theorem dX5_unlike_16 : decode cX5_unlike 16 = .ok (.aload_n 0, 1) := by decide +kernel
theorem dX5_unlike_17 : decode cX5_unlike 17 = .ok (.getfield 7, 3) := by decide +kernel
theorem dX5_unlike_20 : decode cX5_unlike 20 = .ok (.bipush 16, 2) := by decide +kernel
theorem dX5_unlike_22 : decode cX5_unlike 22 = .ok (.iaload, 1) := by decide +kernel
theorem dX5_unlike_23 : decode cX5_unlike 23 = .ok (.if_icmp .ge 47, 3) := by decide +kernel
theorem dX5_unlike_26 : decode cX5_unlike 26 = .ok (.aload_n 0, 1) := by decide +kernel
theorem dX5_unlike_27 : decode cX5_unlike 27 = .ok (.getfield 7, 3) := by decide +kernel
theorem dX5_unlike_30 : decode cX5_unlike 30 = .ok (.iload_n 3, 1) := by decide +kernel
theorem dX5_unlike_31 : decode cX5_unlike 31 = .ok (.iconst 0, 1) := by decide +kernel
theorem dX5_unlike_32 : decode cX5_unlike 32 = .ok (.invokestatic 35, 3) := by decide +kernel
theorem dX5_unlike_35 : decode cX5_unlike 35 = .ok (.iaload, 1) := by decide +kernel
theorem dX5_unlike_36 : decode cX5_unlike 36 = .ok (.istore 4, 2) := by decide +kernel
theorem dX5_unlike_38 : decode cX5_unlike 38 = .ok (.iload 4, 2) := by decide +kernel
theorem dX5_unlike_40 : decode cX5_unlike 40 = .ok (.iload_n 1, 1) := by decide +kernel
theorem dX5_unlike_41 : decode cX5_unlike 41 = .ok (.if_icmp .ge 8, 3) := by decide +kernel
theorem dX5_unlike_44 : decode cX5_unlike 44 = .ok (.iload 4, 2) := by decide +kernel
theorem dX5_unlike_46 : decode cX5_unlike 46 = .ok (.goto 4, 3) := by decide +kernel
theorem dX5_unlike_49 : decode cX5_unlike 49 = .ok (.iload_n 1, 1) := by decide +kernel
theorem dX5_unlike_50 : decode cX5_unlike 50 = .ok (.istore_n 1, 1) := by decide +kernel
theorem dX5_unlike_51 : decode cX5_unlike 51 = .ok (.iload 4, 2) := by decide +kernel
theorem dX5_unlike_53 : decode cX5_unlike 53 = .ok (.iload_n 2, 1) := by decide +kernel
theorem dX5_unlike_54 : decode cX5_unlike 54 = .ok (.if_icmp .le 8, 3) := by decide +kernel
theorem dX5_unlike_57 : decode cX5_unlike 57 = .ok (.iload 4, 2) := by decide +kernel
theorem dX5_unlike_59 : decode cX5_unlike 59 = .ok (.goto 4, 3) := by decide +kernel
theorem dX5_unlike_62 : decode cX5_unlike 62 = .ok (.iload_n 2, 1) := by decide +kernel
theorem dX5_unlike_63 : decode cX5_unlike 63 = .ok (.istore_n 2, 1) := by decide +kernel
theorem dX5_unlike_64 : decode cX5_unlike 64 = .ok (.iinc 3 1, 3) := by decide +kernel
theorem dX5_unlike_67 : decode cX5_unlike 67 = .ok (.goto (-52), 3) := by decide +kernel
theorem dX5_unlike_70 : decode cX5_unlike 70 = .ok (.iload_n 2, 1) := by decide +kernel
theorem dX5_unlike_71 : decode cX5_unlike 71 = .ok (.iload_n 1, 1) := by decide +kernel
theorem dX5_unlike_72 : decode cX5_unlike 72 = .ok (.isub, 1) := by decide +kernel
theorem dX5_unlike_73 : decode cX5_unlike 73 = .ok (.ireturn, 1) := by decide +kernel
set_option maxRecDepth 20000 in
theorem ggX5_unbalance_X5_unlike : GoodIn wsX5_unbalance wsX5_unlike := goodIn_r _ [6, 7, 8, 9, 5, 10, 11, 12, 13, 14, 15, 16, 17, 18, 19, 20, 21, 22, 23, 24, 25] (by decide +kernel) (by decide +kernel)
set_option maxRecDepth 20000 in
theorem gX5_unbalance_X5_unlike : GoodIn wsX5_unbalance (wsV RX5 172 RX5 yX5_unlike wsX5_unlike) := goodIn_app (goodIn_of _ (by decide +kernel)) ggX5_unbalance_X5_unlike
theorem dX5_unbalance_0 : decode cX5_unbalance 0 = .ok (.aload_n 0, 1) := by decide +kernel
theorem dX5_unbalance_1 : decode cX5_unbalance 1 = .ok (.iconst 0, 1) := by decide +kernel
theorem dX5_unbalance_2 : decode cX5_unbalance 2 = .ok (.putfield 26, 3) := by decide +kernel
theorem dX5_unbalance_5 : decode cX5_unbalance 5 = .ok (.aload_n 0, 1) := by decide +kernel
theorem dX5_unbalance_6 : decode cX5_unbalance 6 = .ok (.invokevirtual 172, 3) := by decide +kernel
theorem dX5_unbalance_9 : decode cX5_unbalance 9 = .ok (.ireturn, 1) := by decide +kernel
theorem dX5_meanVoltage_0 : decode cX5_meanVoltage 0 = .ok (.aload_n 0, 1) := by decide +kernel
theorem dX5_meanVoltage_1 : decode cX5_meanVoltage 1 = .ok (.iconst 0, 1) := by decide +kernel
theorem dX5_meanVoltage_2 : decode cX5_meanVoltage 2 = .ok (.putfield 26, 3) := by decide +kernel
theorem dX5_meanVoltage_5 : decode cX5_meanVoltage 5 = .ok (.iconst 0, 1) := by decide +kernel
theorem dX5_meanVoltage_6 : decode cX5_meanVoltage 6 = .ok (.istore_n 1, 1) := by decide +kernel
theorem dX5_meanVoltage_7 : decode cX5_meanVoltage 7 = .ok (.iconst 0, 1) := by decide +kernel
theorem dX5_meanVoltage_8 : decode cX5_meanVoltage 8 = .ok (.istore_n 2, 1) := by decide +kernel
theorem dX5_meanVoltage_9 : decode cX5_meanVoltage 9 = .ok (.iload_n 2, 1) := by decide +kernel
theorem dX5_meanVoltage_10 : decode cX5_meanVoltage 10 = .ok (.aload_n 0, 1) := by decide +kernel
theorem dX5_meanVoltage_11 : decode cX5_meanVoltage 11 = .ok (.getfield 7, 3) := by decide +kernel
theorem dX5_meanVoltage_14 : decode cX5_meanVoltage 14 = .ok (.bipush 31, 2) := by decide +kernel
theorem dX5_meanVoltage_16 : decode cX5_meanVoltage 16 = .ok (.iaload, 1) := by decide +kernel
theorem dX5_meanVoltage_17 : decode cX5_meanVoltage 17 = .ok (.if_icmp .ge 24, 3) := by decide +kernel
theorem dX5_meanVoltage_20 : decode cX5_meanVoltage 20 = .ok (.iload_n 1, 1) := by decide +kernel
theorem dX5_meanVoltage_21 : decode cX5_meanVoltage 21 = .ok (.aload_n 0, 1) := by decide +kernel
theorem dX5_meanVoltage_22 : decode cX5_meanVoltage 22 = .ok (.getfield 7, 3) := by decide +kernel
theorem dX5_meanVoltage_25 : decode cX5_meanVoltage 25 = .ok (.bipush 63, 2) := by decide +kernel
theorem dX5_meanVoltage_27 : decode cX5_meanVoltage 27 = .ok (.bipush 6, 2) := by decide +kernel
theorem dX5_meanVoltage_29 : decode cX5_meanVoltage 29 = .ok (.iload_n 2, 1) := by decide +kernel
theorem dX5_meanVoltage_30 : decode cX5_meanVoltage 30 = .ok (.imul, 1) := by decide +kernel
theorem dX5_meanVoltage_31 : decode cX5_meanVoltage 31 = .ok (.iadd, 1) := by decide +kernel
theorem dX5_meanVoltage_32 : decode cX5_meanVoltage 32 = .ok (.iaload, 1) := by decide +kernel
theorem dX5_meanVoltage_33 : decode cX5_meanVoltage 33 = .ok (.iadd, 1) := by decide +kernel
theorem dX5_meanVoltage_34 : decode cX5_meanVoltage 34 = .ok (.istore_n 1, 1) := by decide +kernel
theorem dX5_meanVoltage_35 : decode cX5_meanVoltage 35 = .ok (.iinc 2 1, 3) := by decide +kernel
theorem dX5_meanVoltage_38 : decode cX5_meanVoltage 38 = .ok (.goto (-29), 3) := by decide +kernel
theorem dX5_meanVoltage_41 : decode cX5_meanVoltage 41 = .ok (.aload_n 0, 1) := by decide +kernel
theorem dX5_meanVoltage_42 : decode cX5_meanVoltage 42 = .ok (.getfield 7, 3) := by decide +kernel
theorem dX5_meanVoltage_45 : decode cX5_meanVoltage 45 = .ok (.bipush 31, 2) := by decide +kernel
theorem dX5_meanVoltage_47 : decode cX5_meanVoltage 47 = .ok (.iaload, 1) := by decide +kernel
theorem dX5_meanVoltage_48 : decode cX5_meanVoltage 48 = .ok (.ifCond .ne 7, 3) := by decide +kernel
theorem dX5_meanVoltage_51 : decode cX5_meanVoltage 51 = .ok (.dconst 0, 1) := by decide +kernel
theorem dX5_meanVoltage_52 : decode cX5_meanVoltage 52 = .ok (.goto 16, 3) := by decide +kernel
theorem dX5_meanVoltage_55 : decode cX5_meanVoltage 55 = .ok (.dconst 1, 1) := by decide +kernel
theorem dX5_meanVoltage_56 : decode cX5_meanVoltage 56 = .ok (.iload_n 1, 1) := by decide +kernel
theorem dX5_meanVoltage_57 : decode cX5_meanVoltage 57 = .ok (.i2d, 1) := by decide +kernel
theorem dX5_meanVoltage_58 : decode cX5_meanVoltage 58 = .ok (.dmul, 1) := by decide +kernel
theorem dX5_meanVoltage_59 : decode cX5_meanVoltage 59 = .ok (.aload_n 0, 1) := by decide +kernel
theorem dX5_meanVoltage_60 : decode cX5_meanVoltage 60 = .ok (.getfield 7, 3) := by decide +kernel
theorem dX5_meanVoltage_63 : decode cX5_meanVoltage 63 = .ok (.bipush 31, 2) := by decide +kernel
theorem dX5_meanVoltage_65 : decode cX5_meanVoltage 65 = .ok (.iaload, 1) := by decide +kernel
theorem dX5_meanVoltage_66 : decode cX5_meanVoltage 66 = .ok (.i2d, 1) := by decide +kernel
theorem dX5_meanVoltage_67 : decode cX5_meanVoltage 67 = .ok (.ddiv, 1) := by decide +kernel
theorem dX5_meanVoltage_68 : decode cX5_meanVoltage 68 = .ok (.dreturn, 1) := by decide +kernel
theorem dX5_mix_0 : decode cX5_mix 0 = .ok (.aload_n 0, 1) := by decide +kernel
theorem dX5_mix_1 : decode cX5_mix 1 = .ok (.ldc2_w 175, 3) := by decide +kernel
theorem dX5_mix_4 : decode cX5_mix 4 = .ok (.aload_n 0, 1) := by decide +kernel
theorem dX5_mix_5 : decode cX5_mix 5 = .ok (.getfield 177, 3) := by decide +kernel
theorem dX5_mix_8 : decode cX5_mix 8 = .ok (.lmul, 1) := by decide +kernel
theorem dX5_mix_9 : decode cX5_mix 9 = .ok (.lload_n 1, 1) := by decide +kernel
theorem dX5_mix_10 : decode cX5_mix 10 = .ok (.ladd, 1) := by decide +kernel
theorem dX5_mix_11 : decode cX5_mix 11 = .ok (.putfield 177, 3) := by decide +kernel
theorem dX5_mix_14 : decode cX5_mix 14 = .ok (.return_, 1) := by decide +kernel
set_option maxRecDepth 20000 in
theorem ggX5_digest_X5_place : GoodIn wsX5_digest wsX5_place := goodIn_r _ [10] (by decide +kernel) (by decide +kernel)
set_option maxRecDepth 20000 in
theorem gX5_digest_X5_place : GoodIn wsX5_digest (va_wsS RX5 157 yX5_place wsX5_place) := goodIn_app (goodIn_of _ (by decide +kernel)) ggX5_digest_X5_place
set_option maxRecDepth 20000 in
theorem ggX5_digest_X5_mix : GoodIn wsX5_digest wsX5_mix := goodIn_r _ [14, 15, 3, 101, 102, 103, 104, 105, 106, 107, 108, 109, 110, 111, 112, 113, 114, 115] (by decide +kernel) (by decide +kernel)
set_option maxRecDepth 20000 in
theorem gX5_digest_X5_mix : GoodIn wsX5_digest (wsV RX5 183 RX5 yX5_mix wsX5_mix) := goodIn_app (goodIn_of _ (by decide +kernel)) ggX5_digest_X5_mix
set_option maxRecDepth 20000 in
theorem ggX5_digest_X5_settledAt : GoodIn wsX5_digest wsX5_settledAt := goodIn_r _ [19, 4, 20, 21, 22, 9, 23, 24, 25, 26, 27, 28, 29, 30, 31, 32, 33, 34, 35, 36, 37, 38, 39, 40, 41, 42, 43, 44, 45, 46, 47, 48, 49, 50, 51, 52, 53, 54, 55, 56, 57, 58, 59, 60, 61, 62, 63, 64, 65, 66, 67, 68, 69, 70, 71, 72, 73, 74, 75, 76, 77, 78, 79, 80, 81, 82, 83, 84, 85, 86, 87, 88, 89, 90, 91, 92, 93, 94, 95, 96, 101, 102, 103, 104, 105, 106, 107, 108, 109, 110, 111, 112, 113, 114, 115] (by decide +kernel) (by decide +kernel)
set_option maxRecDepth 20000 in
theorem gX5_digest_X5_settledAt : GoodIn wsX5_digest (wsV RX5 166 RX5 yX5_settledAt wsX5_settledAt) := goodIn_app (goodIn_of _ (by decide +kernel)) ggX5_digest_X5_settledAt
set_option maxRecDepth 20000 in
theorem ggX5_digest_X5_unlike : GoodIn wsX5_digest wsX5_unlike := goodIn_r _ [100, 4, 45, 46, 9, 47, 101, 102, 103, 104, 105, 106, 107, 108, 109, 110, 111, 112, 113, 114, 115] (by decide +kernel) (by decide +kernel)
set_option maxRecDepth 20000 in
theorem gX5_digest_X5_unlike : GoodIn wsX5_digest (wsV RX5 172 RX5 yX5_unlike wsX5_unlike) := goodIn_app (goodIn_of _ (by decide +kernel)) ggX5_digest_X5_unlike
theorem dX5_digest_0 : decode cX5_digest 0 = .ok (.aload_n 0, 1) := by decide +kernel
theorem dX5_digest_1 : decode cX5_digest 1 = .ok (.iconst 0, 1) := by decide +kernel
theorem dX5_digest_2 : decode cX5_digest 2 = .ok (.putfield 26, 3) := by decide +kernel
theorem dX5_digest_5 : decode cX5_digest 5 = .ok (.aload_n 0, 1) := by decide +kernel
theorem dX5_digest_6 : decode cX5_digest 6 = .ok (.ldc2_w 181, 3) := by decide +kernel
theorem dX5_digest_9 : decode cX5_digest 9 = .ok (.putfield 177, 3) := by decide +kernel
theorem dX5_digest_12 : decode cX5_digest 12 = .ok (.iconst 0, 1) := by decide +kernel
theorem dX5_digest_13 : decode cX5_digest 13 = .ok (.istore_n 1, 1) := by decide +kernel
theorem dX5_digest_14 : decode cX5_digest 14 = .ok (.iload_n 1, 1) := by decide +kernel
theorem dX5_digest_15 : decode cX5_digest 15 = .ok (.bipush 15, 2) := by decide +kernel
theorem dX5_digest_17 : decode cX5_digest 17 = .ok (.if_icmp .ge 23, 3) := by decide +kernel
theorem dX5_digest_20 : decode cX5_digest 20 = .ok (.aload_n 0, 1) := by decide +kernel
theorem dX5_digest_21 : decode cX5_digest 21 = .ok (.aload_n 0, 1) := by decide +kernel
theorem dX5_digest_22 : decode cX5_digest 22 = .ok (.getfield 7, 3) := by decide +kernel
theorem dX5_digest_25 : decode cX5_digest 25 = .ok (.iload_n 1, 1) := by decide +kernel
theorem dX5_digest_26 : decode cX5_digest 26 = .ok (.invokestatic 157, 3) := by decide +kernel
theorem dX5_digest_29 : decode cX5_digest 29 = .ok (.iaload, 1) := by decide +kernel
theorem dX5_digest_30 : decode cX5_digest 30 = .ok (.i2l, 1) := by decide +kernel
theorem dX5_digest_31 : decode cX5_digest 31 = .ok (.invokevirtual 183, 3) := by decide +kernel
theorem dX5_digest_34 : decode cX5_digest 34 = .ok (.iinc 1 1, 3) := by decide +kernel
theorem dX5_digest_37 : decode cX5_digest 37 = .ok (.goto (-23), 3) := by decide +kernel
theorem dX5_digest_40 : decode cX5_digest 40 = .ok (.iconst 0, 1) := by decide +kernel
theorem dX5_digest_41 : decode cX5_digest 41 = .ok (.istore_n 1, 1) := by decide +kernel
theorem dX5_digest_42 : decode cX5_digest 42 = .ok (.iload_n 1, 1) := by decide +kernel
theorem dX5_digest_43 : decode cX5_digest 43 = .ok (.bipush 15, 2) := by decide +kernel
theorem dX5_digest_45 : decode cX5_digest 45 = .ok (.if_icmp .ge 20, 3) := by decide +kernel
theorem dX5_digest_48 : decode cX5_digest 48 = .ok (.aload_n 0, 1) := by decide +kernel
theorem dX5_digest_49 : decode cX5_digest 49 = .ok (.aload_n 0, 1) := by decide +kernel
theorem dX5_digest_50 : decode cX5_digest 50 = .ok (.getfield 7, 3) := by decide +kernel
theorem dX5_digest_53 : decode cX5_digest 53 = .ok (.iload_n 1, 1) := by decide +kernel
theorem dX5_digest_54 : decode cX5_digest 54 = .ok (.iaload, 1) := by decide +kernel
theorem dX5_digest_55 : decode cX5_digest 55 = .ok (.i2l, 1) := by decide +kernel
theorem dX5_digest_56 : decode cX5_digest 56 = .ok (.invokevirtual 183, 3) := by decide +kernel
theorem dX5_digest_59 : decode cX5_digest 59 = .ok (.iinc 1 1, 3) := by decide +kernel
theorem dX5_digest_62 : decode cX5_digest 62 = .ok (.goto (-20), 3) := by decide +kernel
theorem dX5_digest_65 : decode cX5_digest 65 = .ok (.iconst 0, 1) := by decide +kernel
theorem dX5_digest_66 : decode cX5_digest 66 = .ok (.istore_n 1, 1) := by decide +kernel
theorem dX5_digest_67 : decode cX5_digest 67 = .ok (.iload_n 1, 1) := by decide +kernel
theorem dX5_digest_68 : decode cX5_digest 68 = .ok (.bipush 7, 2) := by decide +kernel
theorem dX5_digest_70 : decode cX5_digest 70 = .ok (.aload_n 0, 1) := by decide +kernel
theorem dX5_digest_71 : decode cX5_digest 71 = .ok (.getfield 7, 3) := by decide +kernel
theorem dX5_digest_74 : decode cX5_digest 74 = .ok (.bipush 15, 2) := by decide +kernel
theorem dX5_digest_76 : decode cX5_digest 76 = .ok (.iaload, 1) := by decide +kernel
theorem dX5_digest_77 : decode cX5_digest 77 = .ok (.imul, 1) := by decide +kernel
theorem dX5_digest_78 : decode cX5_digest 78 = .ok (.if_icmp .ge 23, 3) := by decide +kernel
theorem dX5_digest_81 : decode cX5_digest 81 = .ok (.aload_n 0, 1) := by decide +kernel
theorem dX5_digest_82 : decode cX5_digest 82 = .ok (.aload_n 0, 1) := by decide +kernel
theorem dX5_digest_83 : decode cX5_digest 83 = .ok (.getfield 7, 3) := by decide +kernel
theorem dX5_digest_86 : decode cX5_digest 86 = .ok (.bipush 35, 2) := by decide +kernel
theorem dX5_digest_88 : decode cX5_digest 88 = .ok (.iload_n 1, 1) := by decide +kernel
theorem dX5_digest_89 : decode cX5_digest 89 = .ok (.iadd, 1) := by decide +kernel
theorem dX5_digest_90 : decode cX5_digest 90 = .ok (.iaload, 1) := by decide +kernel
theorem dX5_digest_91 : decode cX5_digest 91 = .ok (.i2l, 1) := by decide +kernel
theorem dX5_digest_92 : decode cX5_digest 92 = .ok (.invokevirtual 183, 3) := by decide +kernel
theorem dX5_digest_95 : decode cX5_digest 95 = .ok (.iinc 1 1, 3) := by decide +kernel
theorem dX5_digest_98 : decode cX5_digest 98 = .ok (.goto (-31), 3) := by decide +kernel
theorem dX5_digest_101 : decode cX5_digest 101 = .ok (.iconst 0, 1) := by decide +kernel
theorem dX5_digest_102 : decode cX5_digest 102 = .ok (.istore_n 1, 1) := by decide +kernel
theorem dX5_digest_103 : decode cX5_digest 103 = .ok (.iload_n 1, 1) := by decide +kernel
theorem dX5_digest_104 : decode cX5_digest 104 = .ok (.bipush 6, 2) := by decide +kernel
theorem dX5_digest_106 : decode cX5_digest 106 = .ok (.aload_n 0, 1) := by decide +kernel
theorem dX5_digest_107 : decode cX5_digest 107 = .ok (.getfield 7, 3) := by decide +kernel
theorem dX5_digest_110 : decode cX5_digest 110 = .ok (.bipush 31, 2) := by decide +kernel
theorem dX5_digest_112 : decode cX5_digest 112 = .ok (.iaload, 1) := by decide +kernel
theorem dX5_digest_113 : decode cX5_digest 113 = .ok (.imul, 1) := by decide +kernel
theorem dX5_digest_114 : decode cX5_digest 114 = .ok (.if_icmp .ge 23, 3) := by decide +kernel
theorem dX5_digest_117 : decode cX5_digest 117 = .ok (.aload_n 0, 1) := by decide +kernel
theorem dX5_digest_118 : decode cX5_digest 118 = .ok (.aload_n 0, 1) := by decide +kernel
theorem dX5_digest_119 : decode cX5_digest 119 = .ok (.getfield 7, 3) := by decide +kernel
theorem dX5_digest_122 : decode cX5_digest 122 = .ok (.bipush 63, 2) := by decide +kernel
theorem dX5_digest_124 : decode cX5_digest 124 = .ok (.iload_n 1, 1) := by decide +kernel
theorem dX5_digest_125 : decode cX5_digest 125 = .ok (.iadd, 1) := by decide +kernel
theorem dX5_digest_126 : decode cX5_digest 126 = .ok (.iaload, 1) := by decide +kernel
theorem dX5_digest_127 : decode cX5_digest 127 = .ok (.i2l, 1) := by decide +kernel
theorem dX5_digest_128 : decode cX5_digest 128 = .ok (.invokevirtual 183, 3) := by decide +kernel
theorem dX5_digest_131 : decode cX5_digest 131 = .ok (.iinc 1 1, 3) := by decide +kernel
theorem dX5_digest_134 : decode cX5_digest 134 = .ok (.goto (-31), 3) := by decide +kernel
theorem dX5_digest_137 : decode cX5_digest 137 = .ok (.aload_n 0, 1) := by decide +kernel
theorem dX5_digest_138 : decode cX5_digest 138 = .ok (.aload_n 0, 1) := by decide +kernel
theorem dX5_digest_139 : decode cX5_digest 139 = .ok (.bipush 50, 2) := by decide +kernel
theorem dX5_digest_141 : decode cX5_digest 141 = .ok (.invokevirtual 166, 3) := by decide +kernel
theorem dX5_digest_144 : decode cX5_digest 144 = .ok (.i2l, 1) := by decide +kernel
theorem dX5_digest_145 : decode cX5_digest 145 = .ok (.invokevirtual 183, 3) := by decide +kernel
theorem dX5_digest_148 : decode cX5_digest 148 = .ok (.aload_n 0, 1) := by decide +kernel
theorem dX5_digest_149 : decode cX5_digest 149 = .ok (.aload_n 0, 1) := by decide +kernel
theorem dX5_digest_150 : decode cX5_digest 150 = .ok (.invokevirtual 172, 3) := by decide +kernel
theorem dX5_digest_153 : decode cX5_digest 153 = .ok (.i2l, 1) := by decide +kernel
theorem dX5_digest_154 : decode cX5_digest 154 = .ok (.invokevirtual 183, 3) := by decide +kernel
theorem dX5_digest_157 : decode cX5_digest 157 = .ok (.aload_n 0, 1) := by decide +kernel
theorem dX5_digest_158 : decode cX5_digest 158 = .ok (.aload_n 0, 1) := by decide +kernel
theorem dX5_digest_159 : decode cX5_digest 159 = .ok (.getfield 111, 3) := by decide +kernel
theorem dX5_digest_162 : decode cX5_digest 162 = .ok (.i2l, 1) := by decide +kernel
theorem dX5_digest_163 : decode cX5_digest 163 = .ok (.invokevirtual 183, 3) := by decide +kernel
theorem dX5_digest_166 : decode cX5_digest 166 = .ok (.iconst 0, 1) := by decide +kernel
theorem dX5_digest_167 : decode cX5_digest 167 = .ok (.istore_n 1, 1) := by decide +kernel
theorem dX5_digest_168 : decode cX5_digest 168 = .ok (.iload_n 1, 1) := by decide +kernel
theorem dX5_digest_169 : decode cX5_digest 169 = .ok (.aload_n 0, 1) := by decide +kernel
theorem dX5_digest_170 : decode cX5_digest 170 = .ok (.getfield 111, 3) := by decide +kernel
theorem dX5_digest_173 : decode cX5_digest 173 = .ok (.if_icmp .ge 20, 3) := by decide +kernel
theorem dX5_digest_176 : decode cX5_digest 176 = .ok (.aload_n 0, 1) := by decide +kernel
theorem dX5_digest_177 : decode cX5_digest 177 = .ok (.aload_n 0, 1) := by decide +kernel
theorem dX5_digest_178 : decode cX5_digest 178 = .ok (.getfield 16, 3) := by decide +kernel
theorem dX5_digest_181 : decode cX5_digest 181 = .ok (.iload_n 1, 1) := by decide +kernel
theorem dX5_digest_182 : decode cX5_digest 182 = .ok (.iaload, 1) := by decide +kernel
theorem dX5_digest_183 : decode cX5_digest 183 = .ok (.i2l, 1) := by decide +kernel
theorem dX5_digest_184 : decode cX5_digest 184 = .ok (.invokevirtual 183, 3) := by decide +kernel
theorem dX5_digest_187 : decode cX5_digest 187 = .ok (.iinc 1 1, 3) := by decide +kernel
theorem dX5_digest_190 : decode cX5_digest 190 = .ok (.goto (-22), 3) := by decide +kernel
theorem dX5_digest_193 : decode cX5_digest 193 = .ok (.aload_n 0, 1) := by decide +kernel
theorem dX5_digest_194 : decode cX5_digest 194 = .ok (.getfield 177, 3) := by decide +kernel
theorem dX5_digest_197 : decode cX5_digest 197 = .ok (.lreturn, 1) := by decide +kernel
end
section
/-! The words that every contract here is written in: an environment (class numbers), a world, an answer; and the rows of calls in those words. -/
abbrev EE : Type := va_G × ClassId × ClassId
abbrev kty (E : EE) : List (ClassId × FieldType) := [(E.2.1, .int), (E.2.2, .object "PhaseConverter$Phase")]
/-- what the tables say of the nest mates' private members -/
def NW (U : State) : Prop :=
  va_Nw (.methodLinkNest RX2 133 yX4_clamp RX4) U ∧ va_Nw (.methodLinkNest RX2 137 yX4_quotient RX4) U ∧ va_Nw (.methodLinkNest RX2 29 yX1_init RX4) U ∧
  va_Nw (.methodLinkNest RX3 30 yX4_isDigit RX4) U ∧ va_Nw (.methodLinkNest RX4 23 yX0_init RX4) U ∧ va_Nw (.methodLinkNest RX4 30 yX3_init RX4) U ∧
  va_Nw (.fieldLinkNest RX2 9 RX4 "AT_FIRST" "[I" RX4) U
theorem NW.warm {s U : State} (hW : s.WarmedH U.vm) (h : NW s) : NW U := ⟨va_Nw.warmM hW h.1, va_Nw.warmM hW h.2.1, va_Nw.warmM hW h.2.2.1, va_Nw.warmM hW h.2.2.2.1, va_Nw.warmM hW h.2.2.2.2.1, va_Nw.warmM hW h.2.2.2.2.2.1, va_Nw.warmF hW h.2.2.2.2.2.2⟩
theorem NW.same {u U : State} (h : u.vm = U.vm) (hZ : NW u) : NW U := ⟨va_Nw.same rfl h hZ.1, va_Nw.same rfl h hZ.2.1, va_Nw.same rfl h hZ.2.2.1, va_Nw.same rfl h hZ.2.2.2.1, va_Nw.same rfl h hZ.2.2.2.2.1, va_Nw.same rfl h hZ.2.2.2.2.2.1, va_Nw.same rfl h hZ.2.2.2.2.2.2⟩
/-- a contract's start: the world w in a heap of sz cells -/
def gP (E : EE) (sz : Nat) (w : va_W) (U : State) : Prop := U.heap.size = sz ∧ va_P E.1 vwCl w U.heap ∧ va_K E.1 vwCl (kty E) U ∧ va_D (fun _ => True) w ∧ NW U
def gPc (E : EE) (sz : Nat) (w : va_W) (xs : List Value) : Array Value → State → Prop := va_Pc xs (gP E sz w)
/-- a contract's end: the answer r, the world w1, nothing else changed -/
def gQ (E : EE) (sz : Nat) (w w1 : va_W) (r : Option Value) : Array Value → State → Outcome → State → Prop := fun _ st oc t => oc = .returned r ∧ va_P E.1 vwCl w1 t.heap ∧ va_D (va_A w sz) w1 ∧ va_F (va_A w sz) st t
/-- the contract of a method that makes nothing: from w with the arguments xs to w1 with the answer r -/
def GM (l : Launch) (y : MethodName) (ws : List Cond) (fr lo : Nat) (E : EE) (w : va_W) (xs : List Value) (w1 : va_W) (r : Option Value) : Prop :=
  ∀ sz : Nat, Met l y ws ({ frames := fr, cells := 0, slots := 0, locals := lo }) (gPc E sz w xs) (gQ E sz w w1 r) 0 0 (va_A w sz)
/-- a method's room and its end, in those words -/
abbrev gR (ws : List Cond) (fr lo : Nat) : Room := (headSpec ws ({ frames := fr, cells := 0, slots := 0, locals := lo } : Room)).room
abbrev gMQ (below : List Frame) (E : EE) (s : State) (w w1 : va_W) (r : Option Value) (xs : List Value) : State → Prop := MQ below (gQ E s.heap.size w w1 r) xs.toArray s 0 0 (va_A w s.heap.size)
theorem gblind {E : EE} {sz : Nat} {w : va_W} {xs : List Value} : FrameBlind (gPc E sz w xs) := fun a U g mk q => by
  obtain ⟨q0, q1, qP, qK, qD, qN⟩ := q
  exact ⟨q0, q1, qP, va_K.moved (u := U) (U := U.calling g mk a) (Vm.Alike.refl U.vm) qK, qD, NW.same (u := U) (U := U.calling g mk a) rfl qN⟩
/-- a cell of a list of cells among others -/
theorem gmidP {D : va_G} {cl : List vw_C} {X wc Y : va_W} {H : Heap} (h : va_P D cl (X ++ (wc ++ Y)) H) : va_P D cl wc H := by
  intro k q hk
  have hl := (List.getElem?_eq_some_iff.mp hk).1
  refine h (X.length + k) q ?_
  rw [List.getElem?_append_right (by omega), Nat.add_sub_cancel_left, List.getElem?_append_left hl]
  exact hk
theorem gmidD {A : Nat → Prop} {X wc Y : va_W} (h : va_D A (X ++ (wc ++ Y))) : va_D A wc := by
  have key : ∀ (k : Nat) (q : Nat × va_E), wc[k]? = some q → (X ++ (wc ++ Y))[X.length + k]? = some q := by
    intro k q hk
    have hl := (List.getElem?_eq_some_iff.mp hk).1
    rw [List.getElem?_append_right (by omega), Nat.add_sub_cancel_left, List.getElem?_append_left hl]
    exact hk
  refine ⟨fun i j x y hi hj hxy => ?_, fun k q hk => h.2 _ q (key k q hk)⟩
  have := h.1 _ _ x y (key i x hi) (key j y hj) hxy
  omega
theorem gfree {A0 : Nat → Prop} {w : va_W} {H0 H : Heap} {locs : List Loc} (hD : va_D A0 w) (hS : va_S A0 H0 H locs) (hA : ∀ q, H0.size ≤ q → A0 q) : ∀ q, va_A w H.size q → A0 q := by
  intro q h
  rcases h with ⟨k, e, h⟩ | h
  · exact hD.2 k (q, e) h
  · exact hA q (Nat.le_trans hS.1 h)
theorem gin3 {X wc Y : va_W} {k : Nat} {q : Nat × va_E} (h : (X ++ (wc ++ Y))[k]? = some q) : (k < X.length ∧ X[k]? = some q) ∨ (∃ j, k = X.length + j ∧ wc[j]? = some q) ∨ (∃ j, k = X.length + wc.length + j ∧ Y[j]? = some q) := by
  by_cases h1 : k < X.length
  · rw [List.getElem?_append_left h1] at h
    exact Or.inl ⟨h1, h⟩
  · rw [List.getElem?_append_right (by omega)] at h
    by_cases h2 : k - X.length < wc.length
    · rw [List.getElem?_append_left h2] at h
      exact Or.inr (Or.inl ⟨k - X.length, by omega, h⟩)
    · rw [List.getElem?_append_right (by omega)] at h
      exact Or.inr (Or.inr ⟨k - X.length - wc.length, by omega, h⟩)
/-- behind a call: the callee's world among the caller's other cells -/
theorem gjoin {A0 : Nat → Prop} {D : va_G} {cl : List vw_C} {X wc w1 Y : va_W} {H H1 : Heap} (hP : va_P D cl (X ++ (wc ++ Y)) H) (hD : va_D A0 (X ++ (wc ++ Y)))
    (hk : ∀ q : Nat, q < H.size → ¬ va_A wc H.size q → H1[q]? = H[q]?) (hF : ∀ q, va_A wc H.size q → A0 q) (hP1 : va_P D cl w1 H1) (hD1 : va_D (va_A wc H.size) w1) : va_P D cl (X ++ (w1 ++ Y)) H1 ∧ va_D A0 (X ++ (w1 ++ Y)) := by
  have inX : ∀ (k : Nat) (q : Nat × va_E), X[k]? = some q → (X ++ (wc ++ Y))[k]? = some q := fun k q h => by
    rw [List.getElem?_append_left (List.getElem?_eq_some_iff.mp h).1]; exact h
  have inC : ∀ (k : Nat) (q : Nat × va_E), wc[k]? = some q → (X ++ (wc ++ Y))[X.length + k]? = some q := fun k q h => by
    rw [List.getElem?_append_right (by omega), Nat.add_sub_cancel_left, List.getElem?_append_left (List.getElem?_eq_some_iff.mp h).1]; exact h
  have inY : ∀ (k : Nat) (q : Nat × va_E), Y[k]? = some q → (X ++ (wc ++ Y))[X.length + wc.length + k]? = some q := fun k q h => by
    rw [List.getElem?_append_right (by omega), List.getElem?_append_right (by omega), show X.length + wc.length + k - X.length - wc.length = k by omega]; exact h
  have apart : ∀ (i : Nat) (q : Nat × va_E), (X ++ (wc ++ Y))[i]? = some q → (i < X.length ∨ X.length + wc.length ≤ i) → q.1 < H.size ∧ ¬ va_A wc H.size q.1 := by
    intro i q hi hr
    have hl := (hP i q hi).lt
    refine ⟨hl, fun h => ?_⟩
    rcases h with ⟨k2, e, h⟩ | h
    · have hij := hD.1 i _ q (q.1, e) hi (inC _ _ h) rfl
      have := (List.getElem?_eq_some_iff.mp h).1
      omega
    · omega
  refine ⟨fun k q hq => ?_, fun i j x y hi hj hxy => ?_, fun k q hq => ?_⟩
  · rcases gin3 hq with ⟨h1, h2⟩ | ⟨j, h1, h2⟩ | ⟨j, h1, h2⟩
    · obtain ⟨g1, g2⟩ := apart k q (inX k q h2) (Or.inl h1)
      exact (hP k q (inX k q h2)).kept (hk q.1 g1 g2)
    · exact hP1 j q h2
    · obtain ⟨g1, g2⟩ := apart _ q (inY j q h2) (Or.inr (by omega))
      exact (hP _ q (inY j q h2)).kept (hk q.1 g1 g2)
  · rcases gin3 hi with ⟨a1, a2⟩ | ⟨i', a1, a2⟩ | ⟨i', a1, a2⟩ <;> rcases gin3 hj with ⟨b1, b2⟩ | ⟨j', b1, b2⟩ | ⟨j', b1, b2⟩
    · exact hD.1 i j x y (inX i x a2) (inX j y b2) hxy
    · exact absurd (by rw [hxy]; exact hD1.2 j' y b2) (apart i x (inX i x a2) (Or.inl a1)).2
    · have := hD.1 _ _ x y (inX i x a2) (inY j' y b2) hxy
      omega
    · exact absurd (by rw [← hxy]; exact hD1.2 i' x a2) (apart j y (inX j y b2) (Or.inl b1)).2
    · have := hD1.1 _ _ x y a2 b2 hxy
      omega
    · exact absurd (by rw [← hxy]; exact hD1.2 i' x a2) (apart _ y (inY j' y b2) (Or.inr (by omega))).2
    · have := hD.1 _ _ x y (inY i' x a2) (inX j y b2) hxy
      omega
    · exact absurd (by rw [hxy]; exact hD1.2 j' y b2) (apart _ x (inY i' x a2) (Or.inr (by omega))).2
    · have := hD.1 _ _ x y (inY i' x a2) (inY j' y b2) hxy
      omega
  · rcases gin3 hq with ⟨h1, h2⟩ | ⟨j, h1, h2⟩ | ⟨j, h1, h2⟩
    · exact hD.2 _ q (inX k q h2)
    · exact hF _ (hD1.2 j q h2)
    · exact hD.2 _ q (inY j q h2)
/-- behind a call on one cell of the world -/
theorem gjoin1 {A0 : Nat → Prop} {D : va_G} {cl : List vw_C} {ws : va_W} {k ad : Nat} {e e1 : va_E} {H H1 : Heap} (hP : va_P D cl ws H) (hD : va_D A0 ws) (hke : ws[k]? = some (ad, e))
    (hk : ∀ q : Nat, q < H.size → ¬ va_A [(ad, e)] H.size q → H1[q]? = H[q]?) (hP1 : va_P D cl [(ad, e1)] H1) : va_P D cl (ws.set k (ad, e1)) H1 ∧ va_D A0 (ws.set k (ad, e1)) := by
  refine ⟨?_, hD.set hke⟩
  have hl := (List.getElem?_eq_some_iff.mp hke).1
  intro j q hj
  by_cases hjk : j = k
  · subst hjk
    rw [List.getElem?_set_self hl] at hj
    cases hj
    exact hP1 0 _ rfl
  · rw [List.getElem?_set_ne (Ne.symm hjk)] at hj
    refine (hP j q hj).kept (hk q.1 (hP j q hj).lt (fun h => ?_))
    rcases h with ⟨i, e2, h⟩ | h
    · have hi : i = 0 := by
        have := (List.getElem?_eq_some_iff.mp h).1
        simp at this
        omega
      subst hi
      simp at h
      exact hjk (hD.1 j k q (ad, e) hj hke h.1.symm)
    · have := (hP j q hj).lt
      omega
theorem gat1 {D : va_G} {cl : List vw_C} {ws : va_W} {k ad : Nat} {e : va_E} {H : Heap} (hP : va_P D cl ws H) (hke : ws[k]? = some (ad, e)) : va_P D cl [(ad, e)] H := by
  intro j q hj
  have hi : j = 0 := by
    have := (List.getElem?_eq_some_iff.mp hj).1
    simp at this
    omega
  subst hi
  cases hj
  exact hP k _ hke
theorem gatD {A : Nat → Prop} {ws : va_W} {k ad : Nat} {e : va_E} (hD : va_D A ws) (hke : ws[k]? = some (ad, e)) : va_D A [(ad, e)] := by
  have h0 : ∀ (j : Nat) (q : Nat × va_E), ([(ad, e)] : va_W)[j]? = some q → j = 0 ∧ q = (ad, e) := by
    intro j q hj
    have hi : j = 0 := by
      have := (List.getElem?_eq_some_iff.mp hj).1
      simp at this
      omega
    subst hi
    cases hj
    exact ⟨rfl, rfl⟩
  refine ⟨fun i j x y hi hj _ => by rw [(h0 i x hi).1, (h0 j y hj).1], fun j q hj => ?_⟩
  rw [(h0 j q hj).2]
  exact hD.2 k _ hke
section GCA
variable {p : Program} {l : Launch} {e : Env} {R : Room} {s : State} {m : MethodId} {args : Array Value} {below : List Frame} {meth : Method} {c : Code} {H : Heap} {locs : List Loc} {cells slots : Nat} {Q : State → Prop}
variable {pc : Nat} {ls : Array Slot} {rest st0 : List Value} {a : Array Value} {A0 : Nat → Prop} {H0 : Heap} {mc ms : Nat}
variable {E : EE} {w wc w1 X Y : va_W} {r : Option Value}
/-- the callee's start out of the caller's heap -/
theorem gpre (hP : va_P E.1 vwCl wc H) (hK : va_K E.1 vwCl (kty E) s) (hD : va_D A0 wc) (hN : NW s) (xs : List Value) : ∀ U : State, U.heap = H → s.WarmedH U.vm → gPc E H.size wc xs xs.toArray U :=
  fun U hU hW => ⟨rfl, by rw [hU], by rw [hU]; exact hP, va_K.moved hW.alike hK, hD.weaken (fun _ _ _ _ => trivial), hN.warm hW⟩
theorem grun (hr : va_Run p l e R s m args below meth c H locs cells slots mc ms (F0 m pc ls st0) rest (gQ E H.size wc w1 r a) (va_A wc H.size)) (hS : va_S A0 H0 H locs) (hf : ∀ q, va_A wc H.size q → A0 q)
    (kk : ∀ (H1 : Heap) (locs1 : List Loc), va_P E.1 vwCl w1 H1 → va_D (va_A wc H.size) w1 → (∀ q : Nat, q < H.size → ¬ va_A wc H.size q → H1[q]? = H[q]?) → va_S A0 H0 H1 locs1 → W p l e R s m args below meth c H1 locs1 (cells + mc) (slots + ms) Q (F0 m (pc + 3) ls (r.toList ++ rest))) : W p l e R s m args below meth c H locs cells slots Q (F0 m pc ls st0) := by
  intro T hT X
  obtain ⟨v, st₀, t, T', L, h0, X', hL, e1, e2, ⟨hv, hp, hd, hz, hk⟩, st⟩ := hr T hT X
  cases hv
  rw [h0] at hz hk
  obtain ⟨t2, a1, b1⟩ := kk T'.heap (locs ++ L) (by rw [e1]; exact hp) hd (fun q h1 h2 => by rw [e1]; exact hk q h1 h2)
    ⟨Nat.le_trans hS.1 (by rw [e1]; exact hz), fun q h1 h2 => by rw [e1, hk q (Nat.lt_of_lt_of_le h1 hS.1) (fun z => h2 (hf q z))]; exact hS.2.1 q h1 h2, fun q hq => by
      rcases List.mem_append.mp hq with h | h
      · exact hS.2.2 q h
      · exact hf _ (hL q h)⟩ T' rfl X'
  exact ⟨t2, st t2 a1, b1⟩
theorem gv0v {b : Addr} {y : MethodName} {ws : List Cond} {fr lo : Nat} {bytes cc : ByteArray} {maxL nL n index : Nat} {ret : Option FieldType} {Ts : List Cond} {own C : String} {As : List Value} (CF : CallFix p m c cc nL s args Ts own) (hM : GM l y ws fr lo E w (Value.ref b :: As) w1 (none)) (cw : CallW R s args own C index y bytes maxL ret ws { frames := fr, cells := 0, slots := 0, locals := lo } 0 0 n) (hrec : ∃ cellB : Cell, H[b]? = some cellB ∧ cellB.vm.isStatics = false ∧ s.vm.findClass C = some cellB.cls) (hP : va_P E.1 vwCl w H) (hK : va_K E.1 vwCl (kty E) s) (hD : va_D A0 w) (hN : NW s) (hS : va_S A0 H0 H locs) (hA : ∀ q, H0.size ≤ q → A0 q) (hn : As.length = n) (hsize : ls.size = nL) (hst : st0 = As.reverse ++ .ref b :: rest) (hW : (rest.map fun v => v.category).sum ≤ 8) (hdg : decode cc pc = .ok (.invokevirtual index, 3)) (hf : cells + 0 ≤ R.cells ∧ slots + 0 ≤ R.slots)
    (kk : ∀ (H1 : Heap) (locs1 : List Loc), va_P E.1 vwCl w1 H1 → va_D A0 w1 → va_S A0 H0 H1 locs1 → W p l e R s m args below meth c H1 locs1 (cells + 0) (slots + 0) Q (F0 m (pc + 3) ls rest)) : W p l e R s m args below meth c H locs cells slots Q (F0 m pc ls st0) := by
  have hPc : va_P E.1 vwCl w H := hP
  have hDc : va_D A0 w := hD
  have hF := gfree hDc hS hA
  refine grun (r := none) (w1 := w1) (va_runV (g := F0 m pc ls st0) (As := As) (rest := rest) CF (hM H.size) cw ⟨gblind, hrec, gpre hPc hK hDc hN (Value.ref b :: As)⟩ rfl hn hsize hst (lv_room hW) hdg hf) hS hF (fun H1 locs1 hP1 hD1 hk hS1 => ?_)
  exact kk H1 locs1 hP1 (hD1.weaken (fun k q _ h => hF q.1 h)) hS1
theorem gvPv {b : Addr} {y : MethodName} {ws : List Cond} {fr lo : Nat} {bytes cc : ByteArray} {maxL nL n index : Nat} {ret : Option FieldType} {Ts : List Cond} {own C : String} {As : List Value} (CF : CallFix p m c cc nL s args Ts own) (hM : GM l y ws fr lo E [] (Value.ref b :: As) [] (none)) (cw : CallW R s args own C index y bytes maxL ret ws { frames := fr, cells := 0, slots := 0, locals := lo } 0 0 n) (hrec : ∃ cellB : Cell, H[b]? = some cellB ∧ cellB.vm.isStatics = false ∧ s.vm.findClass C = some cellB.cls) (hP : va_P E.1 vwCl w H) (hK : va_K E.1 vwCl (kty E) s) (hD : va_D A0 w) (hN : NW s) (hS : va_S A0 H0 H locs) (hA : ∀ q, H0.size ≤ q → A0 q) (hn : As.length = n) (hsize : ls.size = nL) (hst : st0 = As.reverse ++ .ref b :: rest) (hW : (rest.map fun v => v.category).sum ≤ 8) (hdg : decode cc pc = .ok (.invokevirtual index, 3)) (hf : cells + 0 ≤ R.cells ∧ slots + 0 ≤ R.slots)
    (kk : ∀ (H1 : Heap) (locs1 : List Loc), va_P E.1 vwCl w H1 → va_D A0 w → va_S A0 H0 H1 locs1 → W p l e R s m args below meth c H1 locs1 (cells + 0) (slots + 0) Q (F0 m (pc + 3) ls rest)) : W p l e R s m args below meth c H locs cells slots Q (F0 m pc ls st0) := by
  have hPc : va_P E.1 vwCl [] H := (fun k q h => by simp at h)
  have hDc : va_D A0 [] := (⟨fun i j x y h => by simp at h, fun k q h => by simp at h⟩ : va_D A0 [])
  have hF := gfree hDc hS hA
  refine grun (r := none) (w1 := []) (va_runV (g := F0 m pc ls st0) (As := As) (rest := rest) CF (hM H.size) cw ⟨gblind, hrec, gpre hPc hK hDc hN (Value.ref b :: As)⟩ rfl hn hsize hst (lv_room hW) hdg hf) hS hF (fun H1 locs1 hP1 hD1 hk hS1 => ?_)
  obtain ⟨hP2, hD2⟩ := gjoin (X := []) (wc := []) (w1 := []) (Y := w) hP hD hk hF hP1 hD1
  exact kk H1 locs1 hP2 hD2 hS1
theorem gvMv (X Y : va_W) {b : Addr} {y : MethodName} {ws : List Cond} {fr lo : Nat} {bytes cc : ByteArray} {maxL nL n index : Nat} {ret : Option FieldType} {Ts : List Cond} {own C : String} {As : List Value} (CF : CallFix p m c cc nL s args Ts own) (hM : GM l y ws fr lo E wc (Value.ref b :: As) w1 (none)) (cw : CallW R s args own C index y bytes maxL ret ws { frames := fr, cells := 0, slots := 0, locals := lo } 0 0 n) (hrec : ∃ cellB : Cell, H[b]? = some cellB ∧ cellB.vm.isStatics = false ∧ s.vm.findClass C = some cellB.cls) (hP : va_P E.1 vwCl (X ++ (wc ++ Y)) H) (hK : va_K E.1 vwCl (kty E) s) (hD : va_D A0 (X ++ (wc ++ Y))) (hN : NW s) (hS : va_S A0 H0 H locs) (hA : ∀ q, H0.size ≤ q → A0 q) (hn : As.length = n) (hsize : ls.size = nL) (hst : st0 = As.reverse ++ .ref b :: rest) (hW : (rest.map fun v => v.category).sum ≤ 8) (hdg : decode cc pc = .ok (.invokevirtual index, 3)) (hf : cells + 0 ≤ R.cells ∧ slots + 0 ≤ R.slots)
    (kk : ∀ (H1 : Heap) (locs1 : List Loc), va_P E.1 vwCl (X ++ (w1 ++ Y)) H1 → va_D A0 (X ++ (w1 ++ Y)) → va_S A0 H0 H1 locs1 → W p l e R s m args below meth c H1 locs1 (cells + 0) (slots + 0) Q (F0 m (pc + 3) ls rest)) : W p l e R s m args below meth c H locs cells slots Q (F0 m pc ls st0) := by
  have hPc : va_P E.1 vwCl wc H := (gmidP hP)
  have hDc : va_D A0 wc := (gmidD hD)
  have hF := gfree hDc hS hA
  refine grun (r := none) (w1 := w1) (va_runV (g := F0 m pc ls st0) (As := As) (rest := rest) CF (hM H.size) cw ⟨gblind, hrec, gpre hPc hK hDc hN (Value.ref b :: As)⟩ rfl hn hsize hst (lv_room hW) hdg hf) hS hF (fun H1 locs1 hP1 hD1 hk hS1 => ?_)
  obtain ⟨hP2, hD2⟩ := gjoin hP hD hk hF hP1 hD1
  exact kk H1 locs1 hP2 hD2 hS1
theorem gvKv (k : Nat) {b : Addr} {ws0 : va_W} {e0 e1 : va_E} {y : MethodName} {ws : List Cond} {fr lo : Nat} {bytes cc : ByteArray} {maxL nL n index : Nat} {ret : Option FieldType} {Ts : List Cond} {own C : String} {As : List Value} (CF : CallFix p m c cc nL s args Ts own) (hM : GM l y ws fr lo E [(b, e0)] (Value.ref b :: As) [(b, e1)] (none)) (cw : CallW R s args own C index y bytes maxL ret ws { frames := fr, cells := 0, slots := 0, locals := lo } 0 0 n) (hrec : ∃ cellB : Cell, H[b]? = some cellB ∧ cellB.vm.isStatics = false ∧ s.vm.findClass C = some cellB.cls) (hP : va_P E.1 vwCl ws0 H) (hK : va_K E.1 vwCl (kty E) s) (hD : va_D A0 ws0) (hN : NW s) (hS : va_S A0 H0 H locs) (hA : ∀ q, H0.size ≤ q → A0 q) (hke : ws0[k]? = some (b, e0)) (hn : As.length = n) (hsize : ls.size = nL) (hst : st0 = As.reverse ++ .ref b :: rest) (hW : (rest.map fun v => v.category).sum ≤ 8) (hdg : decode cc pc = .ok (.invokevirtual index, 3)) (hf : cells + 0 ≤ R.cells ∧ slots + 0 ≤ R.slots)
    (kk : ∀ (H1 : Heap) (locs1 : List Loc), va_P E.1 vwCl (ws0.set k (b, e1)) H1 → va_D A0 (ws0.set k (b, e1)) → va_S A0 H0 H1 locs1 → W p l e R s m args below meth c H1 locs1 (cells + 0) (slots + 0) Q (F0 m (pc + 3) ls rest)) : W p l e R s m args below meth c H locs cells slots Q (F0 m pc ls st0) := by
  have hPc : va_P E.1 vwCl [(b, e0)] H := (gat1 hP hke)
  have hDc : va_D A0 [(b, e0)] := (gatD hD hke)
  have hF := gfree hDc hS hA
  refine grun (r := none) (w1 := [(b, e1)]) (va_runV (g := F0 m pc ls st0) (As := As) (rest := rest) CF (hM H.size) cw ⟨gblind, hrec, gpre hPc hK hDc hN (Value.ref b :: As)⟩ rfl hn hsize hst (lv_room hW) hdg hf) hS hF (fun H1 locs1 hP1 hD1 hk hS1 => ?_)
  obtain ⟨hP2, hD2⟩ := gjoin1 hP hD hke hk hP1
  exact kk H1 locs1 hP2 hD2 hS1
theorem gsPv {y : MethodName} {ws : List Cond} {fr lo : Nat} {bytes cc : ByteArray} {maxL nL n index : Nat} {ret : Option FieldType} {Ts : List Cond} {own C : String} {As : List Value} (CF : CallFix p m c cc nL s args Ts own) (hM : GM l y ws fr lo E [] As [] (none)) (cw : CallB R s args own index y bytes maxL ret ws { frames := fr, cells := 0, slots := 0, locals := lo } 0 0 n ∧ (Cond.static y).before args s = true) (hP : va_P E.1 vwCl w H) (hK : va_K E.1 vwCl (kty E) s) (hD : va_D A0 w) (hN : NW s) (hS : va_S A0 H0 H locs) (hA : ∀ q, H0.size ≤ q → A0 q) (hn : As.length = n) (hsize : ls.size = nL) (hst : st0 = As.reverse ++ rest) (hW : (rest.map fun v => v.category).sum ≤ 8) (hdg : decode cc pc = .ok (.invokestatic index, 3)) (hf : cells + 0 ≤ R.cells ∧ slots + 0 ≤ R.slots)
    (kk : ∀ (H1 : Heap) (locs1 : List Loc), va_P E.1 vwCl w H1 → va_D A0 w → va_S A0 H0 H1 locs1 → W p l e R s m args below meth c H1 locs1 (cells + 0) (slots + 0) Q (F0 m (pc + 3) ls rest)) : W p l e R s m args below meth c H locs cells slots Q (F0 m pc ls st0) := by
  have hPc : va_P E.1 vwCl [] H := (fun k q h => by simp at h)
  have hDc : va_D A0 [] := (⟨fun i j x y h => by simp at h, fun k q h => by simp at h⟩ : va_D A0 [])
  have hF := gfree hDc hS hA
  refine grun (r := none) (w1 := []) (va_runS (g := F0 m pc ls st0) (As := As) (rest := rest) CF (hM H.size) cw ⟨gblind, gpre hPc hK hDc hN As⟩ rfl hn hsize hst (lv_room hW) hdg hf) hS hF (fun H1 locs1 hP1 hD1 hk hS1 => ?_)
  obtain ⟨hP2, hD2⟩ := gjoin (X := []) (wc := []) (w1 := []) (Y := w) hP hD hk hF hP1 hD1
  exact kk H1 locs1 hP2 hD2 hS1
theorem gsnPv {y : MethodName} {ws : List Cond} {fr lo : Nat} {bytes cc : ByteArray} {maxL nL n index : Nat} {ret : Option FieldType} {Ts : List Cond} {own C : String} {As : List Value} {host : String} (CF : CallFix p m c cc nL s args Ts own) (hM : GM l y ws fr lo E [] As [] (none)) (cw : va_CN R s args own index y host bytes maxL ret ws { frames := fr, cells := 0, slots := 0, locals := lo } 0 0 n ∧ (Cond.static y).before args s = true ∧ True) (hP : va_P E.1 vwCl w H) (hK : va_K E.1 vwCl (kty E) s) (hD : va_D A0 w) (hN : NW s) (hS : va_S A0 H0 H locs) (hA : ∀ q, H0.size ≤ q → A0 q) (hn : As.length = n) (hsize : ls.size = nL) (hst : st0 = As.reverse ++ rest) (hW : (rest.map fun v => v.category).sum ≤ 8) (hdg : decode cc pc = .ok (.invokestatic index, 3)) (hf : cells + 0 ≤ R.cells ∧ slots + 0 ≤ R.slots)
    (kk : ∀ (H1 : Heap) (locs1 : List Loc), va_P E.1 vwCl w H1 → va_D A0 w → va_S A0 H0 H1 locs1 → W p l e R s m args below meth c H1 locs1 (cells + 0) (slots + 0) Q (F0 m (pc + 3) ls rest)) : W p l e R s m args below meth c H locs cells slots Q (F0 m pc ls st0) := by
  have hPc : va_P E.1 vwCl [] H := (fun k q h => by simp at h)
  have hDc : va_D A0 [] := (⟨fun i j x y h => by simp at h, fun k q h => by simp at h⟩ : va_D A0 [])
  have hF := gfree hDc hS hA
  refine grun (r := none) (w1 := []) (va_runSN (g := F0 m pc ls st0) (As := As) (rest := rest) CF (hM H.size) cw ⟨gblind, gpre hPc hK hDc hN As⟩ rfl hn hsize hst (lv_room hW) hdg hf) hS hF (fun H1 locs1 hP1 hD1 hk hS1 => ?_)
  obtain ⟨hP2, hD2⟩ := gjoin (X := []) (wc := []) (w1 := []) (Y := w) hP hD hk hF hP1 hD1
  exact kk H1 locs1 hP2 hD2 hS1
theorem gv0i {x : Int32} {b : Addr} {y : MethodName} {ws : List Cond} {fr lo : Nat} {bytes cc : ByteArray} {maxL nL n index : Nat} {ret : Option FieldType} {Ts : List Cond} {own C : String} {As : List Value} (CF : CallFix p m c cc nL s args Ts own) (hM : GM l y ws fr lo E w (Value.ref b :: As) w1 (some (.int x))) (cw : CallW R s args own C index y bytes maxL ret ws { frames := fr, cells := 0, slots := 0, locals := lo } 0 0 n) (hrec : ∃ cellB : Cell, H[b]? = some cellB ∧ cellB.vm.isStatics = false ∧ s.vm.findClass C = some cellB.cls) (hP : va_P E.1 vwCl w H) (hK : va_K E.1 vwCl (kty E) s) (hD : va_D A0 w) (hN : NW s) (hS : va_S A0 H0 H locs) (hA : ∀ q, H0.size ≤ q → A0 q) (hn : As.length = n) (hsize : ls.size = nL) (hst : st0 = As.reverse ++ .ref b :: rest) (hW : (rest.map fun v => v.category).sum ≤ 8) (hdg : decode cc pc = .ok (.invokevirtual index, 3)) (hf : cells + 0 ≤ R.cells ∧ slots + 0 ≤ R.slots)
    (kk : ∀ (H1 : Heap) (locs1 : List Loc), va_P E.1 vwCl w1 H1 → va_D A0 w1 → va_S A0 H0 H1 locs1 → W p l e R s m args below meth c H1 locs1 (cells + 0) (slots + 0) Q (F0 m (pc + 3) ls (.int x :: rest))) : W p l e R s m args below meth c H locs cells slots Q (F0 m pc ls st0) := by
  have hPc : va_P E.1 vwCl w H := hP
  have hDc : va_D A0 w := hD
  have hF := gfree hDc hS hA
  refine grun (r := some (.int x)) (w1 := w1) (va_runV (g := F0 m pc ls st0) (As := As) (rest := rest) CF (hM H.size) cw ⟨gblind, hrec, gpre hPc hK hDc hN (Value.ref b :: As)⟩ rfl hn hsize hst (lv_room hW) hdg hf) hS hF (fun H1 locs1 hP1 hD1 hk hS1 => ?_)
  exact kk H1 locs1 hP1 (hD1.weaken (fun k q _ h => hF q.1 h)) hS1
theorem gvPi {x : Int32} {b : Addr} {y : MethodName} {ws : List Cond} {fr lo : Nat} {bytes cc : ByteArray} {maxL nL n index : Nat} {ret : Option FieldType} {Ts : List Cond} {own C : String} {As : List Value} (CF : CallFix p m c cc nL s args Ts own) (hM : GM l y ws fr lo E [] (Value.ref b :: As) [] (some (.int x))) (cw : CallW R s args own C index y bytes maxL ret ws { frames := fr, cells := 0, slots := 0, locals := lo } 0 0 n) (hrec : ∃ cellB : Cell, H[b]? = some cellB ∧ cellB.vm.isStatics = false ∧ s.vm.findClass C = some cellB.cls) (hP : va_P E.1 vwCl w H) (hK : va_K E.1 vwCl (kty E) s) (hD : va_D A0 w) (hN : NW s) (hS : va_S A0 H0 H locs) (hA : ∀ q, H0.size ≤ q → A0 q) (hn : As.length = n) (hsize : ls.size = nL) (hst : st0 = As.reverse ++ .ref b :: rest) (hW : (rest.map fun v => v.category).sum ≤ 8) (hdg : decode cc pc = .ok (.invokevirtual index, 3)) (hf : cells + 0 ≤ R.cells ∧ slots + 0 ≤ R.slots)
    (kk : ∀ (H1 : Heap) (locs1 : List Loc), va_P E.1 vwCl w H1 → va_D A0 w → va_S A0 H0 H1 locs1 → W p l e R s m args below meth c H1 locs1 (cells + 0) (slots + 0) Q (F0 m (pc + 3) ls (.int x :: rest))) : W p l e R s m args below meth c H locs cells slots Q (F0 m pc ls st0) := by
  have hPc : va_P E.1 vwCl [] H := (fun k q h => by simp at h)
  have hDc : va_D A0 [] := (⟨fun i j x y h => by simp at h, fun k q h => by simp at h⟩ : va_D A0 [])
  have hF := gfree hDc hS hA
  refine grun (r := some (.int x)) (w1 := []) (va_runV (g := F0 m pc ls st0) (As := As) (rest := rest) CF (hM H.size) cw ⟨gblind, hrec, gpre hPc hK hDc hN (Value.ref b :: As)⟩ rfl hn hsize hst (lv_room hW) hdg hf) hS hF (fun H1 locs1 hP1 hD1 hk hS1 => ?_)
  obtain ⟨hP2, hD2⟩ := gjoin (X := []) (wc := []) (w1 := []) (Y := w) hP hD hk hF hP1 hD1
  exact kk H1 locs1 hP2 hD2 hS1
theorem gvMi (X Y : va_W) {x : Int32} {b : Addr} {y : MethodName} {ws : List Cond} {fr lo : Nat} {bytes cc : ByteArray} {maxL nL n index : Nat} {ret : Option FieldType} {Ts : List Cond} {own C : String} {As : List Value} (CF : CallFix p m c cc nL s args Ts own) (hM : GM l y ws fr lo E wc (Value.ref b :: As) w1 (some (.int x))) (cw : CallW R s args own C index y bytes maxL ret ws { frames := fr, cells := 0, slots := 0, locals := lo } 0 0 n) (hrec : ∃ cellB : Cell, H[b]? = some cellB ∧ cellB.vm.isStatics = false ∧ s.vm.findClass C = some cellB.cls) (hP : va_P E.1 vwCl (X ++ (wc ++ Y)) H) (hK : va_K E.1 vwCl (kty E) s) (hD : va_D A0 (X ++ (wc ++ Y))) (hN : NW s) (hS : va_S A0 H0 H locs) (hA : ∀ q, H0.size ≤ q → A0 q) (hn : As.length = n) (hsize : ls.size = nL) (hst : st0 = As.reverse ++ .ref b :: rest) (hW : (rest.map fun v => v.category).sum ≤ 8) (hdg : decode cc pc = .ok (.invokevirtual index, 3)) (hf : cells + 0 ≤ R.cells ∧ slots + 0 ≤ R.slots)
    (kk : ∀ (H1 : Heap) (locs1 : List Loc), va_P E.1 vwCl (X ++ (w1 ++ Y)) H1 → va_D A0 (X ++ (w1 ++ Y)) → va_S A0 H0 H1 locs1 → W p l e R s m args below meth c H1 locs1 (cells + 0) (slots + 0) Q (F0 m (pc + 3) ls (.int x :: rest))) : W p l e R s m args below meth c H locs cells slots Q (F0 m pc ls st0) := by
  have hPc : va_P E.1 vwCl wc H := (gmidP hP)
  have hDc : va_D A0 wc := (gmidD hD)
  have hF := gfree hDc hS hA
  refine grun (r := some (.int x)) (w1 := w1) (va_runV (g := F0 m pc ls st0) (As := As) (rest := rest) CF (hM H.size) cw ⟨gblind, hrec, gpre hPc hK hDc hN (Value.ref b :: As)⟩ rfl hn hsize hst (lv_room hW) hdg hf) hS hF (fun H1 locs1 hP1 hD1 hk hS1 => ?_)
  obtain ⟨hP2, hD2⟩ := gjoin hP hD hk hF hP1 hD1
  exact kk H1 locs1 hP2 hD2 hS1
theorem gvKi (k : Nat) {x : Int32} {b : Addr} {ws0 : va_W} {e0 e1 : va_E} {y : MethodName} {ws : List Cond} {fr lo : Nat} {bytes cc : ByteArray} {maxL nL n index : Nat} {ret : Option FieldType} {Ts : List Cond} {own C : String} {As : List Value} (CF : CallFix p m c cc nL s args Ts own) (hM : GM l y ws fr lo E [(b, e0)] (Value.ref b :: As) [(b, e1)] (some (.int x))) (cw : CallW R s args own C index y bytes maxL ret ws { frames := fr, cells := 0, slots := 0, locals := lo } 0 0 n) (hrec : ∃ cellB : Cell, H[b]? = some cellB ∧ cellB.vm.isStatics = false ∧ s.vm.findClass C = some cellB.cls) (hP : va_P E.1 vwCl ws0 H) (hK : va_K E.1 vwCl (kty E) s) (hD : va_D A0 ws0) (hN : NW s) (hS : va_S A0 H0 H locs) (hA : ∀ q, H0.size ≤ q → A0 q) (hke : ws0[k]? = some (b, e0)) (hn : As.length = n) (hsize : ls.size = nL) (hst : st0 = As.reverse ++ .ref b :: rest) (hW : (rest.map fun v => v.category).sum ≤ 8) (hdg : decode cc pc = .ok (.invokevirtual index, 3)) (hf : cells + 0 ≤ R.cells ∧ slots + 0 ≤ R.slots)
    (kk : ∀ (H1 : Heap) (locs1 : List Loc), va_P E.1 vwCl (ws0.set k (b, e1)) H1 → va_D A0 (ws0.set k (b, e1)) → va_S A0 H0 H1 locs1 → W p l e R s m args below meth c H1 locs1 (cells + 0) (slots + 0) Q (F0 m (pc + 3) ls (.int x :: rest))) : W p l e R s m args below meth c H locs cells slots Q (F0 m pc ls st0) := by
  have hPc : va_P E.1 vwCl [(b, e0)] H := (gat1 hP hke)
  have hDc : va_D A0 [(b, e0)] := (gatD hD hke)
  have hF := gfree hDc hS hA
  refine grun (r := some (.int x)) (w1 := [(b, e1)]) (va_runV (g := F0 m pc ls st0) (As := As) (rest := rest) CF (hM H.size) cw ⟨gblind, hrec, gpre hPc hK hDc hN (Value.ref b :: As)⟩ rfl hn hsize hst (lv_room hW) hdg hf) hS hF (fun H1 locs1 hP1 hD1 hk hS1 => ?_)
  obtain ⟨hP2, hD2⟩ := gjoin1 hP hD hke hk hP1
  exact kk H1 locs1 hP2 hD2 hS1
theorem gsPi {x : Int32} {y : MethodName} {ws : List Cond} {fr lo : Nat} {bytes cc : ByteArray} {maxL nL n index : Nat} {ret : Option FieldType} {Ts : List Cond} {own C : String} {As : List Value} (CF : CallFix p m c cc nL s args Ts own) (hM : GM l y ws fr lo E [] As [] (some (.int x))) (cw : CallB R s args own index y bytes maxL ret ws { frames := fr, cells := 0, slots := 0, locals := lo } 0 0 n ∧ (Cond.static y).before args s = true) (hP : va_P E.1 vwCl w H) (hK : va_K E.1 vwCl (kty E) s) (hD : va_D A0 w) (hN : NW s) (hS : va_S A0 H0 H locs) (hA : ∀ q, H0.size ≤ q → A0 q) (hn : As.length = n) (hsize : ls.size = nL) (hst : st0 = As.reverse ++ rest) (hW : (rest.map fun v => v.category).sum ≤ 8) (hdg : decode cc pc = .ok (.invokestatic index, 3)) (hf : cells + 0 ≤ R.cells ∧ slots + 0 ≤ R.slots)
    (kk : ∀ (H1 : Heap) (locs1 : List Loc), va_P E.1 vwCl w H1 → va_D A0 w → va_S A0 H0 H1 locs1 → W p l e R s m args below meth c H1 locs1 (cells + 0) (slots + 0) Q (F0 m (pc + 3) ls (.int x :: rest))) : W p l e R s m args below meth c H locs cells slots Q (F0 m pc ls st0) := by
  have hPc : va_P E.1 vwCl [] H := (fun k q h => by simp at h)
  have hDc : va_D A0 [] := (⟨fun i j x y h => by simp at h, fun k q h => by simp at h⟩ : va_D A0 [])
  have hF := gfree hDc hS hA
  refine grun (r := some (.int x)) (w1 := []) (va_runS (g := F0 m pc ls st0) (As := As) (rest := rest) CF (hM H.size) cw ⟨gblind, gpre hPc hK hDc hN As⟩ rfl hn hsize hst (lv_room hW) hdg hf) hS hF (fun H1 locs1 hP1 hD1 hk hS1 => ?_)
  obtain ⟨hP2, hD2⟩ := gjoin (X := []) (wc := []) (w1 := []) (Y := w) hP hD hk hF hP1 hD1
  exact kk H1 locs1 hP2 hD2 hS1
theorem gsnPi {x : Int32} {y : MethodName} {ws : List Cond} {fr lo : Nat} {bytes cc : ByteArray} {maxL nL n index : Nat} {ret : Option FieldType} {Ts : List Cond} {own C : String} {As : List Value} {host : String} (CF : CallFix p m c cc nL s args Ts own) (hM : GM l y ws fr lo E [] As [] (some (.int x))) (cw : va_CN R s args own index y host bytes maxL ret ws { frames := fr, cells := 0, slots := 0, locals := lo } 0 0 n ∧ (Cond.static y).before args s = true ∧ True) (hP : va_P E.1 vwCl w H) (hK : va_K E.1 vwCl (kty E) s) (hD : va_D A0 w) (hN : NW s) (hS : va_S A0 H0 H locs) (hA : ∀ q, H0.size ≤ q → A0 q) (hn : As.length = n) (hsize : ls.size = nL) (hst : st0 = As.reverse ++ rest) (hW : (rest.map fun v => v.category).sum ≤ 8) (hdg : decode cc pc = .ok (.invokestatic index, 3)) (hf : cells + 0 ≤ R.cells ∧ slots + 0 ≤ R.slots)
    (kk : ∀ (H1 : Heap) (locs1 : List Loc), va_P E.1 vwCl w H1 → va_D A0 w → va_S A0 H0 H1 locs1 → W p l e R s m args below meth c H1 locs1 (cells + 0) (slots + 0) Q (F0 m (pc + 3) ls (.int x :: rest))) : W p l e R s m args below meth c H locs cells slots Q (F0 m pc ls st0) := by
  have hPc : va_P E.1 vwCl [] H := (fun k q h => by simp at h)
  have hDc : va_D A0 [] := (⟨fun i j x y h => by simp at h, fun k q h => by simp at h⟩ : va_D A0 [])
  have hF := gfree hDc hS hA
  refine grun (r := some (.int x)) (w1 := []) (va_runSN (g := F0 m pc ls st0) (As := As) (rest := rest) CF (hM H.size) cw ⟨gblind, gpre hPc hK hDc hN As⟩ rfl hn hsize hst (lv_room hW) hdg hf) hS hF (fun H1 locs1 hP1 hD1 hk hS1 => ?_)
  obtain ⟨hP2, hD2⟩ := gjoin (X := []) (wc := []) (w1 := []) (Y := w) hP hD hk hF hP1 hD1
  exact kk H1 locs1 hP2 hD2 hS1
theorem gv0j {x : Int64} {b : Addr} {y : MethodName} {ws : List Cond} {fr lo : Nat} {bytes cc : ByteArray} {maxL nL n index : Nat} {ret : Option FieldType} {Ts : List Cond} {own C : String} {As : List Value} (CF : CallFix p m c cc nL s args Ts own) (hM : GM l y ws fr lo E w (Value.ref b :: As) w1 (some (.long x))) (cw : CallW R s args own C index y bytes maxL ret ws { frames := fr, cells := 0, slots := 0, locals := lo } 0 0 n) (hrec : ∃ cellB : Cell, H[b]? = some cellB ∧ cellB.vm.isStatics = false ∧ s.vm.findClass C = some cellB.cls) (hP : va_P E.1 vwCl w H) (hK : va_K E.1 vwCl (kty E) s) (hD : va_D A0 w) (hN : NW s) (hS : va_S A0 H0 H locs) (hA : ∀ q, H0.size ≤ q → A0 q) (hn : As.length = n) (hsize : ls.size = nL) (hst : st0 = As.reverse ++ .ref b :: rest) (hW : (rest.map fun v => v.category).sum ≤ 8) (hdg : decode cc pc = .ok (.invokevirtual index, 3)) (hf : cells + 0 ≤ R.cells ∧ slots + 0 ≤ R.slots)
    (kk : ∀ (H1 : Heap) (locs1 : List Loc), va_P E.1 vwCl w1 H1 → va_D A0 w1 → va_S A0 H0 H1 locs1 → W p l e R s m args below meth c H1 locs1 (cells + 0) (slots + 0) Q (F0 m (pc + 3) ls (.long x :: rest))) : W p l e R s m args below meth c H locs cells slots Q (F0 m pc ls st0) := by
  have hPc : va_P E.1 vwCl w H := hP
  have hDc : va_D A0 w := hD
  have hF := gfree hDc hS hA
  refine grun (r := some (.long x)) (w1 := w1) (va_runV (g := F0 m pc ls st0) (As := As) (rest := rest) CF (hM H.size) cw ⟨gblind, hrec, gpre hPc hK hDc hN (Value.ref b :: As)⟩ rfl hn hsize hst (lv_room hW) hdg hf) hS hF (fun H1 locs1 hP1 hD1 hk hS1 => ?_)
  exact kk H1 locs1 hP1 (hD1.weaken (fun k q _ h => hF q.1 h)) hS1
theorem gvPj {x : Int64} {b : Addr} {y : MethodName} {ws : List Cond} {fr lo : Nat} {bytes cc : ByteArray} {maxL nL n index : Nat} {ret : Option FieldType} {Ts : List Cond} {own C : String} {As : List Value} (CF : CallFix p m c cc nL s args Ts own) (hM : GM l y ws fr lo E [] (Value.ref b :: As) [] (some (.long x))) (cw : CallW R s args own C index y bytes maxL ret ws { frames := fr, cells := 0, slots := 0, locals := lo } 0 0 n) (hrec : ∃ cellB : Cell, H[b]? = some cellB ∧ cellB.vm.isStatics = false ∧ s.vm.findClass C = some cellB.cls) (hP : va_P E.1 vwCl w H) (hK : va_K E.1 vwCl (kty E) s) (hD : va_D A0 w) (hN : NW s) (hS : va_S A0 H0 H locs) (hA : ∀ q, H0.size ≤ q → A0 q) (hn : As.length = n) (hsize : ls.size = nL) (hst : st0 = As.reverse ++ .ref b :: rest) (hW : (rest.map fun v => v.category).sum ≤ 8) (hdg : decode cc pc = .ok (.invokevirtual index, 3)) (hf : cells + 0 ≤ R.cells ∧ slots + 0 ≤ R.slots)
    (kk : ∀ (H1 : Heap) (locs1 : List Loc), va_P E.1 vwCl w H1 → va_D A0 w → va_S A0 H0 H1 locs1 → W p l e R s m args below meth c H1 locs1 (cells + 0) (slots + 0) Q (F0 m (pc + 3) ls (.long x :: rest))) : W p l e R s m args below meth c H locs cells slots Q (F0 m pc ls st0) := by
  have hPc : va_P E.1 vwCl [] H := (fun k q h => by simp at h)
  have hDc : va_D A0 [] := (⟨fun i j x y h => by simp at h, fun k q h => by simp at h⟩ : va_D A0 [])
  have hF := gfree hDc hS hA
  refine grun (r := some (.long x)) (w1 := []) (va_runV (g := F0 m pc ls st0) (As := As) (rest := rest) CF (hM H.size) cw ⟨gblind, hrec, gpre hPc hK hDc hN (Value.ref b :: As)⟩ rfl hn hsize hst (lv_room hW) hdg hf) hS hF (fun H1 locs1 hP1 hD1 hk hS1 => ?_)
  obtain ⟨hP2, hD2⟩ := gjoin (X := []) (wc := []) (w1 := []) (Y := w) hP hD hk hF hP1 hD1
  exact kk H1 locs1 hP2 hD2 hS1
theorem gvMj (X Y : va_W) {x : Int64} {b : Addr} {y : MethodName} {ws : List Cond} {fr lo : Nat} {bytes cc : ByteArray} {maxL nL n index : Nat} {ret : Option FieldType} {Ts : List Cond} {own C : String} {As : List Value} (CF : CallFix p m c cc nL s args Ts own) (hM : GM l y ws fr lo E wc (Value.ref b :: As) w1 (some (.long x))) (cw : CallW R s args own C index y bytes maxL ret ws { frames := fr, cells := 0, slots := 0, locals := lo } 0 0 n) (hrec : ∃ cellB : Cell, H[b]? = some cellB ∧ cellB.vm.isStatics = false ∧ s.vm.findClass C = some cellB.cls) (hP : va_P E.1 vwCl (X ++ (wc ++ Y)) H) (hK : va_K E.1 vwCl (kty E) s) (hD : va_D A0 (X ++ (wc ++ Y))) (hN : NW s) (hS : va_S A0 H0 H locs) (hA : ∀ q, H0.size ≤ q → A0 q) (hn : As.length = n) (hsize : ls.size = nL) (hst : st0 = As.reverse ++ .ref b :: rest) (hW : (rest.map fun v => v.category).sum ≤ 8) (hdg : decode cc pc = .ok (.invokevirtual index, 3)) (hf : cells + 0 ≤ R.cells ∧ slots + 0 ≤ R.slots)
    (kk : ∀ (H1 : Heap) (locs1 : List Loc), va_P E.1 vwCl (X ++ (w1 ++ Y)) H1 → va_D A0 (X ++ (w1 ++ Y)) → va_S A0 H0 H1 locs1 → W p l e R s m args below meth c H1 locs1 (cells + 0) (slots + 0) Q (F0 m (pc + 3) ls (.long x :: rest))) : W p l e R s m args below meth c H locs cells slots Q (F0 m pc ls st0) := by
  have hPc : va_P E.1 vwCl wc H := (gmidP hP)
  have hDc : va_D A0 wc := (gmidD hD)
  have hF := gfree hDc hS hA
  refine grun (r := some (.long x)) (w1 := w1) (va_runV (g := F0 m pc ls st0) (As := As) (rest := rest) CF (hM H.size) cw ⟨gblind, hrec, gpre hPc hK hDc hN (Value.ref b :: As)⟩ rfl hn hsize hst (lv_room hW) hdg hf) hS hF (fun H1 locs1 hP1 hD1 hk hS1 => ?_)
  obtain ⟨hP2, hD2⟩ := gjoin hP hD hk hF hP1 hD1
  exact kk H1 locs1 hP2 hD2 hS1
theorem gvKj (k : Nat) {x : Int64} {b : Addr} {ws0 : va_W} {e0 e1 : va_E} {y : MethodName} {ws : List Cond} {fr lo : Nat} {bytes cc : ByteArray} {maxL nL n index : Nat} {ret : Option FieldType} {Ts : List Cond} {own C : String} {As : List Value} (CF : CallFix p m c cc nL s args Ts own) (hM : GM l y ws fr lo E [(b, e0)] (Value.ref b :: As) [(b, e1)] (some (.long x))) (cw : CallW R s args own C index y bytes maxL ret ws { frames := fr, cells := 0, slots := 0, locals := lo } 0 0 n) (hrec : ∃ cellB : Cell, H[b]? = some cellB ∧ cellB.vm.isStatics = false ∧ s.vm.findClass C = some cellB.cls) (hP : va_P E.1 vwCl ws0 H) (hK : va_K E.1 vwCl (kty E) s) (hD : va_D A0 ws0) (hN : NW s) (hS : va_S A0 H0 H locs) (hA : ∀ q, H0.size ≤ q → A0 q) (hke : ws0[k]? = some (b, e0)) (hn : As.length = n) (hsize : ls.size = nL) (hst : st0 = As.reverse ++ .ref b :: rest) (hW : (rest.map fun v => v.category).sum ≤ 8) (hdg : decode cc pc = .ok (.invokevirtual index, 3)) (hf : cells + 0 ≤ R.cells ∧ slots + 0 ≤ R.slots)
    (kk : ∀ (H1 : Heap) (locs1 : List Loc), va_P E.1 vwCl (ws0.set k (b, e1)) H1 → va_D A0 (ws0.set k (b, e1)) → va_S A0 H0 H1 locs1 → W p l e R s m args below meth c H1 locs1 (cells + 0) (slots + 0) Q (F0 m (pc + 3) ls (.long x :: rest))) : W p l e R s m args below meth c H locs cells slots Q (F0 m pc ls st0) := by
  have hPc : va_P E.1 vwCl [(b, e0)] H := (gat1 hP hke)
  have hDc : va_D A0 [(b, e0)] := (gatD hD hke)
  have hF := gfree hDc hS hA
  refine grun (r := some (.long x)) (w1 := [(b, e1)]) (va_runV (g := F0 m pc ls st0) (As := As) (rest := rest) CF (hM H.size) cw ⟨gblind, hrec, gpre hPc hK hDc hN (Value.ref b :: As)⟩ rfl hn hsize hst (lv_room hW) hdg hf) hS hF (fun H1 locs1 hP1 hD1 hk hS1 => ?_)
  obtain ⟨hP2, hD2⟩ := gjoin1 hP hD hke hk hP1
  exact kk H1 locs1 hP2 hD2 hS1
theorem gsPj {x : Int64} {y : MethodName} {ws : List Cond} {fr lo : Nat} {bytes cc : ByteArray} {maxL nL n index : Nat} {ret : Option FieldType} {Ts : List Cond} {own C : String} {As : List Value} (CF : CallFix p m c cc nL s args Ts own) (hM : GM l y ws fr lo E [] As [] (some (.long x))) (cw : CallB R s args own index y bytes maxL ret ws { frames := fr, cells := 0, slots := 0, locals := lo } 0 0 n ∧ (Cond.static y).before args s = true) (hP : va_P E.1 vwCl w H) (hK : va_K E.1 vwCl (kty E) s) (hD : va_D A0 w) (hN : NW s) (hS : va_S A0 H0 H locs) (hA : ∀ q, H0.size ≤ q → A0 q) (hn : As.length = n) (hsize : ls.size = nL) (hst : st0 = As.reverse ++ rest) (hW : (rest.map fun v => v.category).sum ≤ 8) (hdg : decode cc pc = .ok (.invokestatic index, 3)) (hf : cells + 0 ≤ R.cells ∧ slots + 0 ≤ R.slots)
    (kk : ∀ (H1 : Heap) (locs1 : List Loc), va_P E.1 vwCl w H1 → va_D A0 w → va_S A0 H0 H1 locs1 → W p l e R s m args below meth c H1 locs1 (cells + 0) (slots + 0) Q (F0 m (pc + 3) ls (.long x :: rest))) : W p l e R s m args below meth c H locs cells slots Q (F0 m pc ls st0) := by
  have hPc : va_P E.1 vwCl [] H := (fun k q h => by simp at h)
  have hDc : va_D A0 [] := (⟨fun i j x y h => by simp at h, fun k q h => by simp at h⟩ : va_D A0 [])
  have hF := gfree hDc hS hA
  refine grun (r := some (.long x)) (w1 := []) (va_runS (g := F0 m pc ls st0) (As := As) (rest := rest) CF (hM H.size) cw ⟨gblind, gpre hPc hK hDc hN As⟩ rfl hn hsize hst (lv_room hW) hdg hf) hS hF (fun H1 locs1 hP1 hD1 hk hS1 => ?_)
  obtain ⟨hP2, hD2⟩ := gjoin (X := []) (wc := []) (w1 := []) (Y := w) hP hD hk hF hP1 hD1
  exact kk H1 locs1 hP2 hD2 hS1
theorem gsnPj {x : Int64} {y : MethodName} {ws : List Cond} {fr lo : Nat} {bytes cc : ByteArray} {maxL nL n index : Nat} {ret : Option FieldType} {Ts : List Cond} {own C : String} {As : List Value} {host : String} (CF : CallFix p m c cc nL s args Ts own) (hM : GM l y ws fr lo E [] As [] (some (.long x))) (cw : va_CN R s args own index y host bytes maxL ret ws { frames := fr, cells := 0, slots := 0, locals := lo } 0 0 n ∧ (Cond.static y).before args s = true ∧ True) (hP : va_P E.1 vwCl w H) (hK : va_K E.1 vwCl (kty E) s) (hD : va_D A0 w) (hN : NW s) (hS : va_S A0 H0 H locs) (hA : ∀ q, H0.size ≤ q → A0 q) (hn : As.length = n) (hsize : ls.size = nL) (hst : st0 = As.reverse ++ rest) (hW : (rest.map fun v => v.category).sum ≤ 8) (hdg : decode cc pc = .ok (.invokestatic index, 3)) (hf : cells + 0 ≤ R.cells ∧ slots + 0 ≤ R.slots)
    (kk : ∀ (H1 : Heap) (locs1 : List Loc), va_P E.1 vwCl w H1 → va_D A0 w → va_S A0 H0 H1 locs1 → W p l e R s m args below meth c H1 locs1 (cells + 0) (slots + 0) Q (F0 m (pc + 3) ls (.long x :: rest))) : W p l e R s m args below meth c H locs cells slots Q (F0 m pc ls st0) := by
  have hPc : va_P E.1 vwCl [] H := (fun k q h => by simp at h)
  have hDc : va_D A0 [] := (⟨fun i j x y h => by simp at h, fun k q h => by simp at h⟩ : va_D A0 [])
  have hF := gfree hDc hS hA
  refine grun (r := some (.long x)) (w1 := []) (va_runSN (g := F0 m pc ls st0) (As := As) (rest := rest) CF (hM H.size) cw ⟨gblind, gpre hPc hK hDc hN As⟩ rfl hn hsize hst (lv_room hW) hdg hf) hS hF (fun H1 locs1 hP1 hD1 hk hS1 => ?_)
  obtain ⟨hP2, hD2⟩ := gjoin (X := []) (wc := []) (w1 := []) (Y := w) hP hD hk hF hP1 hD1
  exact kk H1 locs1 hP2 hD2 hS1
theorem gv0d {x : UInt64} {b : Addr} {y : MethodName} {ws : List Cond} {fr lo : Nat} {bytes cc : ByteArray} {maxL nL n index : Nat} {ret : Option FieldType} {Ts : List Cond} {own C : String} {As : List Value} (CF : CallFix p m c cc nL s args Ts own) (hM : GM l y ws fr lo E w (Value.ref b :: As) w1 (some (.double x))) (cw : CallW R s args own C index y bytes maxL ret ws { frames := fr, cells := 0, slots := 0, locals := lo } 0 0 n) (hrec : ∃ cellB : Cell, H[b]? = some cellB ∧ cellB.vm.isStatics = false ∧ s.vm.findClass C = some cellB.cls) (hP : va_P E.1 vwCl w H) (hK : va_K E.1 vwCl (kty E) s) (hD : va_D A0 w) (hN : NW s) (hS : va_S A0 H0 H locs) (hA : ∀ q, H0.size ≤ q → A0 q) (hn : As.length = n) (hsize : ls.size = nL) (hst : st0 = As.reverse ++ .ref b :: rest) (hW : (rest.map fun v => v.category).sum ≤ 8) (hdg : decode cc pc = .ok (.invokevirtual index, 3)) (hf : cells + 0 ≤ R.cells ∧ slots + 0 ≤ R.slots)
    (kk : ∀ (H1 : Heap) (locs1 : List Loc), va_P E.1 vwCl w1 H1 → va_D A0 w1 → va_S A0 H0 H1 locs1 → W p l e R s m args below meth c H1 locs1 (cells + 0) (slots + 0) Q (F0 m (pc + 3) ls (.double x :: rest))) : W p l e R s m args below meth c H locs cells slots Q (F0 m pc ls st0) := by
  have hPc : va_P E.1 vwCl w H := hP
  have hDc : va_D A0 w := hD
  have hF := gfree hDc hS hA
  refine grun (r := some (.double x)) (w1 := w1) (va_runV (g := F0 m pc ls st0) (As := As) (rest := rest) CF (hM H.size) cw ⟨gblind, hrec, gpre hPc hK hDc hN (Value.ref b :: As)⟩ rfl hn hsize hst (lv_room hW) hdg hf) hS hF (fun H1 locs1 hP1 hD1 hk hS1 => ?_)
  exact kk H1 locs1 hP1 (hD1.weaken (fun k q _ h => hF q.1 h)) hS1
theorem gvPd {x : UInt64} {b : Addr} {y : MethodName} {ws : List Cond} {fr lo : Nat} {bytes cc : ByteArray} {maxL nL n index : Nat} {ret : Option FieldType} {Ts : List Cond} {own C : String} {As : List Value} (CF : CallFix p m c cc nL s args Ts own) (hM : GM l y ws fr lo E [] (Value.ref b :: As) [] (some (.double x))) (cw : CallW R s args own C index y bytes maxL ret ws { frames := fr, cells := 0, slots := 0, locals := lo } 0 0 n) (hrec : ∃ cellB : Cell, H[b]? = some cellB ∧ cellB.vm.isStatics = false ∧ s.vm.findClass C = some cellB.cls) (hP : va_P E.1 vwCl w H) (hK : va_K E.1 vwCl (kty E) s) (hD : va_D A0 w) (hN : NW s) (hS : va_S A0 H0 H locs) (hA : ∀ q, H0.size ≤ q → A0 q) (hn : As.length = n) (hsize : ls.size = nL) (hst : st0 = As.reverse ++ .ref b :: rest) (hW : (rest.map fun v => v.category).sum ≤ 8) (hdg : decode cc pc = .ok (.invokevirtual index, 3)) (hf : cells + 0 ≤ R.cells ∧ slots + 0 ≤ R.slots)
    (kk : ∀ (H1 : Heap) (locs1 : List Loc), va_P E.1 vwCl w H1 → va_D A0 w → va_S A0 H0 H1 locs1 → W p l e R s m args below meth c H1 locs1 (cells + 0) (slots + 0) Q (F0 m (pc + 3) ls (.double x :: rest))) : W p l e R s m args below meth c H locs cells slots Q (F0 m pc ls st0) := by
  have hPc : va_P E.1 vwCl [] H := (fun k q h => by simp at h)
  have hDc : va_D A0 [] := (⟨fun i j x y h => by simp at h, fun k q h => by simp at h⟩ : va_D A0 [])
  have hF := gfree hDc hS hA
  refine grun (r := some (.double x)) (w1 := []) (va_runV (g := F0 m pc ls st0) (As := As) (rest := rest) CF (hM H.size) cw ⟨gblind, hrec, gpre hPc hK hDc hN (Value.ref b :: As)⟩ rfl hn hsize hst (lv_room hW) hdg hf) hS hF (fun H1 locs1 hP1 hD1 hk hS1 => ?_)
  obtain ⟨hP2, hD2⟩ := gjoin (X := []) (wc := []) (w1 := []) (Y := w) hP hD hk hF hP1 hD1
  exact kk H1 locs1 hP2 hD2 hS1
theorem gvMd (X Y : va_W) {x : UInt64} {b : Addr} {y : MethodName} {ws : List Cond} {fr lo : Nat} {bytes cc : ByteArray} {maxL nL n index : Nat} {ret : Option FieldType} {Ts : List Cond} {own C : String} {As : List Value} (CF : CallFix p m c cc nL s args Ts own) (hM : GM l y ws fr lo E wc (Value.ref b :: As) w1 (some (.double x))) (cw : CallW R s args own C index y bytes maxL ret ws { frames := fr, cells := 0, slots := 0, locals := lo } 0 0 n) (hrec : ∃ cellB : Cell, H[b]? = some cellB ∧ cellB.vm.isStatics = false ∧ s.vm.findClass C = some cellB.cls) (hP : va_P E.1 vwCl (X ++ (wc ++ Y)) H) (hK : va_K E.1 vwCl (kty E) s) (hD : va_D A0 (X ++ (wc ++ Y))) (hN : NW s) (hS : va_S A0 H0 H locs) (hA : ∀ q, H0.size ≤ q → A0 q) (hn : As.length = n) (hsize : ls.size = nL) (hst : st0 = As.reverse ++ .ref b :: rest) (hW : (rest.map fun v => v.category).sum ≤ 8) (hdg : decode cc pc = .ok (.invokevirtual index, 3)) (hf : cells + 0 ≤ R.cells ∧ slots + 0 ≤ R.slots)
    (kk : ∀ (H1 : Heap) (locs1 : List Loc), va_P E.1 vwCl (X ++ (w1 ++ Y)) H1 → va_D A0 (X ++ (w1 ++ Y)) → va_S A0 H0 H1 locs1 → W p l e R s m args below meth c H1 locs1 (cells + 0) (slots + 0) Q (F0 m (pc + 3) ls (.double x :: rest))) : W p l e R s m args below meth c H locs cells slots Q (F0 m pc ls st0) := by
  have hPc : va_P E.1 vwCl wc H := (gmidP hP)
  have hDc : va_D A0 wc := (gmidD hD)
  have hF := gfree hDc hS hA
  refine grun (r := some (.double x)) (w1 := w1) (va_runV (g := F0 m pc ls st0) (As := As) (rest := rest) CF (hM H.size) cw ⟨gblind, hrec, gpre hPc hK hDc hN (Value.ref b :: As)⟩ rfl hn hsize hst (lv_room hW) hdg hf) hS hF (fun H1 locs1 hP1 hD1 hk hS1 => ?_)
  obtain ⟨hP2, hD2⟩ := gjoin hP hD hk hF hP1 hD1
  exact kk H1 locs1 hP2 hD2 hS1
theorem gvKd (k : Nat) {x : UInt64} {b : Addr} {ws0 : va_W} {e0 e1 : va_E} {y : MethodName} {ws : List Cond} {fr lo : Nat} {bytes cc : ByteArray} {maxL nL n index : Nat} {ret : Option FieldType} {Ts : List Cond} {own C : String} {As : List Value} (CF : CallFix p m c cc nL s args Ts own) (hM : GM l y ws fr lo E [(b, e0)] (Value.ref b :: As) [(b, e1)] (some (.double x))) (cw : CallW R s args own C index y bytes maxL ret ws { frames := fr, cells := 0, slots := 0, locals := lo } 0 0 n) (hrec : ∃ cellB : Cell, H[b]? = some cellB ∧ cellB.vm.isStatics = false ∧ s.vm.findClass C = some cellB.cls) (hP : va_P E.1 vwCl ws0 H) (hK : va_K E.1 vwCl (kty E) s) (hD : va_D A0 ws0) (hN : NW s) (hS : va_S A0 H0 H locs) (hA : ∀ q, H0.size ≤ q → A0 q) (hke : ws0[k]? = some (b, e0)) (hn : As.length = n) (hsize : ls.size = nL) (hst : st0 = As.reverse ++ .ref b :: rest) (hW : (rest.map fun v => v.category).sum ≤ 8) (hdg : decode cc pc = .ok (.invokevirtual index, 3)) (hf : cells + 0 ≤ R.cells ∧ slots + 0 ≤ R.slots)
    (kk : ∀ (H1 : Heap) (locs1 : List Loc), va_P E.1 vwCl (ws0.set k (b, e1)) H1 → va_D A0 (ws0.set k (b, e1)) → va_S A0 H0 H1 locs1 → W p l e R s m args below meth c H1 locs1 (cells + 0) (slots + 0) Q (F0 m (pc + 3) ls (.double x :: rest))) : W p l e R s m args below meth c H locs cells slots Q (F0 m pc ls st0) := by
  have hPc : va_P E.1 vwCl [(b, e0)] H := (gat1 hP hke)
  have hDc : va_D A0 [(b, e0)] := (gatD hD hke)
  have hF := gfree hDc hS hA
  refine grun (r := some (.double x)) (w1 := [(b, e1)]) (va_runV (g := F0 m pc ls st0) (As := As) (rest := rest) CF (hM H.size) cw ⟨gblind, hrec, gpre hPc hK hDc hN (Value.ref b :: As)⟩ rfl hn hsize hst (lv_room hW) hdg hf) hS hF (fun H1 locs1 hP1 hD1 hk hS1 => ?_)
  obtain ⟨hP2, hD2⟩ := gjoin1 hP hD hke hk hP1
  exact kk H1 locs1 hP2 hD2 hS1
theorem gsPd {x : UInt64} {y : MethodName} {ws : List Cond} {fr lo : Nat} {bytes cc : ByteArray} {maxL nL n index : Nat} {ret : Option FieldType} {Ts : List Cond} {own C : String} {As : List Value} (CF : CallFix p m c cc nL s args Ts own) (hM : GM l y ws fr lo E [] As [] (some (.double x))) (cw : CallB R s args own index y bytes maxL ret ws { frames := fr, cells := 0, slots := 0, locals := lo } 0 0 n ∧ (Cond.static y).before args s = true) (hP : va_P E.1 vwCl w H) (hK : va_K E.1 vwCl (kty E) s) (hD : va_D A0 w) (hN : NW s) (hS : va_S A0 H0 H locs) (hA : ∀ q, H0.size ≤ q → A0 q) (hn : As.length = n) (hsize : ls.size = nL) (hst : st0 = As.reverse ++ rest) (hW : (rest.map fun v => v.category).sum ≤ 8) (hdg : decode cc pc = .ok (.invokestatic index, 3)) (hf : cells + 0 ≤ R.cells ∧ slots + 0 ≤ R.slots)
    (kk : ∀ (H1 : Heap) (locs1 : List Loc), va_P E.1 vwCl w H1 → va_D A0 w → va_S A0 H0 H1 locs1 → W p l e R s m args below meth c H1 locs1 (cells + 0) (slots + 0) Q (F0 m (pc + 3) ls (.double x :: rest))) : W p l e R s m args below meth c H locs cells slots Q (F0 m pc ls st0) := by
  have hPc : va_P E.1 vwCl [] H := (fun k q h => by simp at h)
  have hDc : va_D A0 [] := (⟨fun i j x y h => by simp at h, fun k q h => by simp at h⟩ : va_D A0 [])
  have hF := gfree hDc hS hA
  refine grun (r := some (.double x)) (w1 := []) (va_runS (g := F0 m pc ls st0) (As := As) (rest := rest) CF (hM H.size) cw ⟨gblind, gpre hPc hK hDc hN As⟩ rfl hn hsize hst (lv_room hW) hdg hf) hS hF (fun H1 locs1 hP1 hD1 hk hS1 => ?_)
  obtain ⟨hP2, hD2⟩ := gjoin (X := []) (wc := []) (w1 := []) (Y := w) hP hD hk hF hP1 hD1
  exact kk H1 locs1 hP2 hD2 hS1
theorem gsnPd {x : UInt64} {y : MethodName} {ws : List Cond} {fr lo : Nat} {bytes cc : ByteArray} {maxL nL n index : Nat} {ret : Option FieldType} {Ts : List Cond} {own C : String} {As : List Value} {host : String} (CF : CallFix p m c cc nL s args Ts own) (hM : GM l y ws fr lo E [] As [] (some (.double x))) (cw : va_CN R s args own index y host bytes maxL ret ws { frames := fr, cells := 0, slots := 0, locals := lo } 0 0 n ∧ (Cond.static y).before args s = true ∧ True) (hP : va_P E.1 vwCl w H) (hK : va_K E.1 vwCl (kty E) s) (hD : va_D A0 w) (hN : NW s) (hS : va_S A0 H0 H locs) (hA : ∀ q, H0.size ≤ q → A0 q) (hn : As.length = n) (hsize : ls.size = nL) (hst : st0 = As.reverse ++ rest) (hW : (rest.map fun v => v.category).sum ≤ 8) (hdg : decode cc pc = .ok (.invokestatic index, 3)) (hf : cells + 0 ≤ R.cells ∧ slots + 0 ≤ R.slots)
    (kk : ∀ (H1 : Heap) (locs1 : List Loc), va_P E.1 vwCl w H1 → va_D A0 w → va_S A0 H0 H1 locs1 → W p l e R s m args below meth c H1 locs1 (cells + 0) (slots + 0) Q (F0 m (pc + 3) ls (.double x :: rest))) : W p l e R s m args below meth c H locs cells slots Q (F0 m pc ls st0) := by
  have hPc : va_P E.1 vwCl [] H := (fun k q h => by simp at h)
  have hDc : va_D A0 [] := (⟨fun i j x y h => by simp at h, fun k q h => by simp at h⟩ : va_D A0 [])
  have hF := gfree hDc hS hA
  refine grun (r := some (.double x)) (w1 := []) (va_runSN (g := F0 m pc ls st0) (As := As) (rest := rest) CF (hM H.size) cw ⟨gblind, gpre hPc hK hDc hN As⟩ rfl hn hsize hst (lv_room hW) hdg hf) hS hF (fun H1 locs1 hP1 hD1 hk hS1 => ?_)
  obtain ⟨hP2, hD2⟩ := gjoin (X := []) (wc := []) (w1 := []) (Y := w) hP hD hk hF hP1 hD1
  exact kk H1 locs1 hP2 hD2 hS1
end GCA
section GRE
variable {p : Program} {l : Launch} {e : Env} {R : Room} {s : State} {m : MethodId} {args : Array Value} {below : List Frame} {meth : Method} {c : Code} {H : Heap} {locs : List Loc}
variable {pc : Nat} {ls : Array Slot} {E : EE} {w w1 w2 : va_W} {cc : ByteArray}
theorem gretv (hexec : p.tables.exec = Jvm.exec) (hb : c.code = cc) (hr : meth.sig.returnType = none) (hlocks : meth.locks = false) (hP : va_P E.1 vwCl w2 H) (hD : va_D (va_A w s.heap.size) w2) (hS : va_S (va_A w s.heap.size) s.heap H locs) (hw : w2 = w1) (hdg : decode cc pc = .ok (.return_, 1)) : W p l e R s m args below meth c H locs 0 0 (MQ below (gQ E s.heap.size w w1 none) args s 0 0 (va_A w s.heap.size)) (F0 m pc ls []) := by
  subst hw
  exact W.vret hexec hb hr (fun t ht hW => ⟨rfl, by rw [ht]; exact hP, hD, hS.F ht⟩) hS.2.2 hdg hlocks
theorem greti (hexec : p.tables.exec = Jvm.exec) (hb : c.code = cc) (hr : meth.sig.returnType = some .int) (hlocks : meth.locks = false) (hP : va_P E.1 vwCl w2 H) (hD : va_D (va_A w s.heap.size) w2) (hS : va_S (va_A w s.heap.size) s.heap H locs) {v v1 : Int32} (hv : v = v1) (hw : w2 = w1) (hdg : decode cc pc = .ok (.ireturn, 1)) : W p l e R s m args below meth c H locs 0 0 (MQ below (gQ E s.heap.size w w1 (some (.int v1))) args s 0 0 (va_A w s.heap.size)) (F0 m pc ls [.int v]) := by
  subst hw; subst hv
  exact W.iret hexec hb hr (fun t ht hW => ⟨rfl, by rw [ht]; exact hP, hD, hS.F ht⟩) hS.2.2 hdg hlocks
theorem gretz (hexec : p.tables.exec = Jvm.exec) (hb : c.code = cc) (hr : meth.sig.returnType = some .boolean) (hlocks : meth.locks = false) (hP : va_P E.1 vwCl w2 H) (hD : va_D (va_A w s.heap.size) w2) (hS : va_S (va_A w s.heap.size) s.heap H locs) {v v1 : Int32} (hn : v = 0 ∨ v = 1) (hv : v = v1) (hw : w2 = w1) (hdg : decode cc pc = .ok (.ireturn, 1)) : W p l e R s m args below meth c H locs 0 0 (MQ below (gQ E s.heap.size w w1 (some (.int v1))) args s 0 0 (va_A w s.heap.size)) (F0 m pc ls [.int v]) := by
  subst hw; subst hv
  exact W.zret hexec hb hr (by rcases hn with h | h <;> rw [h] <;> decide) (fun t ht hW => ⟨rfl, by rw [ht]; exact hP, hD, hS.F ht⟩) hS.2.2 hdg hlocks
theorem gretj (hexec : p.tables.exec = Jvm.exec) (hb : c.code = cc) (hr : meth.sig.returnType = some .long) (hlocks : meth.locks = false) (hP : va_P E.1 vwCl w2 H) (hD : va_D (va_A w s.heap.size) w2) (hS : va_S (va_A w s.heap.size) s.heap H locs) {v v1 : Int64} (hv : v = v1) (hw : w2 = w1) (hdg : decode cc pc = .ok (.lreturn, 1)) : W p l e R s m args below meth c H locs 0 0 (MQ below (gQ E s.heap.size w w1 (some (.long v1))) args s 0 0 (va_A w s.heap.size)) (F0 m pc ls [.long v]) := by
  subst hw; subst hv
  exact W.lret hexec hb hr (fun t ht hW => ⟨rfl, by rw [ht]; exact hP, hD, hS.F ht⟩) hS.2.2 hdg hlocks
end GRE
section GAR
variable {p : Program} {l : Launch} {e : Env} {R : Room} {s : State} {m : MethodId} {args : Array Value} {below : List Frame} {meth : Method} {c : Code} {H : Heap} {locs : List Loc} {cells slots : Nat} {Q : State → Prop}
variable {cc : ByteArray} {pc : Nat} {ls : Array Slot} {rest : List Value} {E : EE} {A : Nat → Prop} {a : Nat} {ws : va_W} {H0 : Heap}
/-- an int out of a row, by a place that is known -/
theorem gald (hexec : p.tables.exec = Jvm.exec) (hb : c.code = cc) (hK : va_K E.1 vwCl (kty E) s) (hP : va_P E.1 vwCl ws H) (q0 : Nat) {n : Nat} {f : Nat → Int32} (ha : ws[q0]? = some (a, .inl (E.2.1, n, .inl f))) {i x : Int32} (j : Nat) (hi : i = nI j) (hj : j < n) (hn : n < 2 ^ 31) (hx : f j = x) (hdg : decode cc pc = .ok (.iaload, 1))
    (kk : W p l e R s m args below meth c H locs cells slots Q (F0 m (pc + 1) ls (.int x :: rest))) : W p l e R s m args below meth c H locs cells slots Q (F0 m pc ls (.int i :: .ref a :: rest)) := by
  subst hi; subst hx
  refine va_iald hexec hb hK hP q0 0 ha rfl (vp_in_nI hj hn) hdg ?_
  rw [nI_clamp (by omega)]
  exact kk
/-- an int into a row -/
theorem gast (hexec : p.tables.exec = Jvm.exec) (hb : c.code = cc) (hK : va_K E.1 vwCl (kty E) s) (hP : va_P E.1 vwCl ws H) (hD : va_D A ws) (hS : va_S A H0 H locs) (q0 : Nat) {n : Nat} {f : Nat → Int32} (ha : ws[q0]? = some (a, .inl (E.2.1, n, .inl f))) {i x : Int32} (j : Nat) (hi : i = nI j) (hj : j < n) (hn : n < 2 ^ 31) (hdg : decode cc pc = .ok (.iastore, 1))
    (kk : ∀ (H1 : Heap) (locs1 : List Loc), va_P E.1 vwCl (ws.set q0 (a, .inl (E.2.1, n, .inl (upd f j x)))) H1 → va_D A (ws.set q0 (a, .inl (E.2.1, n, .inl (upd f j x)))) → va_S A H0 H1 locs1 → W p l e R s m args below meth c H1 locs1 cells slots Q (F0 m (pc + 1) ls rest)) : W p l e R s m args below meth c H locs cells slots Q (F0 m pc ls (.int x :: .int i :: .ref a :: rest)) := by
  subst hi
  refine va_iast hexec hb hK hP hD hS q0 0 ha rfl (vp_in_nI hj hn) hdg ?_
  rw [nI_clamp (by omega)]
  exact kk
end GAR
end
section
/-! The reference's object, and what its methods do, as functions of its numbers. -/
/-- the reference's cells: A 0 the object, A 1 z, A 2 aside, A 3 text, A 4 read -/
abbrev wM (E : EE) (A : Nat → Nat) (G z a t r : Nat → Int32) (h : Int64) : va_W :=
  [(A 0, .inr (5, [.int (G 0), .ref (A 1), .ref (A 2), .int (G 3), .ref (A 3), .int (G 5), .int (G 6), .int (G 7), .int (G 8), .int (G 9), .int (G 10), .int (G 11), .int (G 12), .ref (A 4), .long h])),
   (A 1, .inl (E.2.1, 159, .inl z)), (A 2, .inl (E.2.1, 159, .inl a)), (A 3, .inl (E.2.1, 50, .inl t)), (A 4, .inl (E.2.1, 100, .inl r))]
def within (v lo hi : Int32) : Int32 := if v < lo then 0 else if hi < v then 0 else 1
theorem within_01 (v lo hi : Int32) : within v lo hi = 0 ∨ within v lo hi = 1 := by
  unfold within
  split
  · exact Or.inl rfl
  · split
    · exact Or.inl rfl
    · exact Or.inr rfl
def clampI (v lo hi : Int32) : Int32 := if lo ≤ v then (if v ≤ hi then v else hi) else lo
def runsI (z : Nat → Int32) : Int32 := if z 20 = 1 then 1 else if z 20 = 2 then 1 else 0
theorem runsI_01 (z : Nat → Int32) : runsI z = 0 ∨ runsI z = 1 := by
  unfold runsI
  split
  · exact Or.inr rfl
  · split
    · exact Or.inr rfl
    · exact Or.inl rfl
/-- the numbers of phases and of active phases -/
def nOf (z : Nat → Int32) : Nat := (z 15).toNatClampNeg
def mOf (z : Nat → Int32) : Nat := (z 16).toNatClampNeg
/-- what keeps the arithmetic safe: 1 to 4 phases, as many active at most, no divisor 0 -/
def zOK (z : Nat → Int32) : Prop := z 15 = nI (nOf z) ∧ 1 ≤ nOf z ∧ nOf z ≤ 4 ∧ z 16 = nI (mOf z) ∧ 1 ≤ mOf z ∧ mOf z ≤ nOf z ∧ ¬ z 0 = 0 ∧ ¬ z 3 = 0 ∧ ¬ z 4 = 0
theorem zOK_of {z z' : Nat → Int32} (h : zOK z) (e15 : z' 15 = z 15) (e16 : z' 16 = z 16) (e0 : z' 0 = z 0) (e3 : z' 3 = z 3) (e4 : z' 4 = z 4) : zOK z' := by
  unfold zOK nOf mOf at *
  rw [e15, e16, e0, e3, e4]
  exact h
def changePh (m : Int32) (z : Nat → Int32) : Nat → Int32 := upd (upd (upd (upd z 16 m) 29 0) 30 0) 28 (z 28 + 1)
def aim (z : Nat → Int32) : Nat → Int32 :=
  if z 20 = 1 then (if z 18 + z 8 < z 1 then upd z 18 (z 18 + z 8) else upd (upd (upd z 18 (z 18 + z 8)) 18 (z 1)) 20 2) else if z 20 = 2 then upd z 18 (z 1) else z
def regI (z : Nat → Int32) : Int32 := clampI (z 19 + (z 18 - z 17)) (-100000) 100000
def regulate (z : Nat → Int32) : Nat → Int32 :=
  upd (upd z 19 (regI z)) 21 (clampI (1000 * z 18 / z 0 + (z 18 - z 17) * z 6 / 100 + regI z * z 7 / 10000) 0 900)
def stopL : Nat → Nat → (Nat → Int32) → (Nat → Int32)
  | 0, _, z => z
  | n + 1, i, z => stopL n (i + 1) (upd z (35 + 7 * i + 1) 0)
def stopTo (v : Int32) (z : Nat → Int32) : Nat → Int32 := stopL (nOf z) 0 (upd z 20 v)
def sumL (z : Nat → Int32) : Nat → Nat → Int32 → Int32
  | 0, _, x => x
  | n + 1, i, x => sumL z n (i + 1) (x + z (35 + 7 * i + 0))
def sumC (n : Nat) (z : Nat → Int32) : Int32 := sumL z n 0 0
def adI (z : Nat → Int32) : Int32 := if z 22 ≤ z 10 * z 16 then 0 else (if z 15 ≤ z 16 then 0 else z 29 + 1)
def shI (z : Nat → Int32) : Int32 := if z 16 ≤ 1 then 0 else (if z 11 * (z 16 - 1) ≤ z 22 then 0 else z 30 + 1)
def choose (z : Nat → Int32) : Nat → Int32 :=
  if adI z = 3 then changePh (z 16 + 1) (upd z 29 (adI z))
  else if shI z = 5 then upd (changePh (z 16 - 1) (upd (upd z 29 (adI z)) 30 (shI z))) (35 + 7 * (mOf z - 1) + 1) 0
  else upd (upd z 29 (adI z)) 30 (shI z)
def bpSkip (k : Nat) (z : Nat → Int32) : Nat → Int32 := upd (upd (upd z (35 + 7 * k + 1) 0) (35 + 7 * k + 5) (z (35 + 7 * k + 5) + 1)) 26 (z 26 + 1)
def bpFar (k : Nat) (z : Nat → Int32) : Int32 := z (35 + 7 * k + 0) - sumC (mOf z) z / z 16
def bpB (k : Nat) (z : Nat → Int32) : Int32 := clampI (z 21 - bpFar k z * z 14 / 1000) 0 900
def bpRest (k : Nat) (z : Nat → Int32) : Int32 := z (35 + 7 * k + 2) + 20 * bpB k z
def bpGo (k : Nat) (z : Nat → Int32) : Nat → Int32 := upd (upd (upd z (35 + 7 * k + 1) (bpRest k z / 1000)) (35 + 7 * k + 2) (bpRest k z - bpRest k z / 1000 * 1000)) (35 + 7 * k + 6) (z (35 + 7 * k + 6) + 1)
def beginP (k : Nat) (a : Int32) (z : Nat → Int32) : Nat → Int32 :=
  if z 17 < z 18 then bpGo k z else if z 20 = 1 then bpSkip k z else if z 9 ≤ a then bpGo k z else bpSkip k z
def st1 (k : Nat) (z : Nat → Int32) : Nat → Int32 :=
  if z (35 + 7 * k + 1) ≤ 0 then z else (if z (35 + 7 * k + 0) < z 5 then z else upd (upd (upd z (35 + 7 * k + 1) 0) (35 + 7 * k + 4) (z (35 + 7 * k + 4) + 1)) 25 (z 25 + 1))
def st2 (k : Nat) (z : Nat → Int32) : Nat → Int32 :=
  if z (35 + 7 * k + 1) ≤ 0 then upd z (35 + 7 * k + 0) (z (35 + 7 * k + 0) - z 17 / z 3)
  else upd (upd (upd z (35 + 7 * k + 1) (z (35 + 7 * k + 1) - 1)) (35 + 7 * k + 3) (z (35 + 7 * k + 3) + 1)) (35 + 7 * k + 0) (z (35 + 7 * k + 0) + (z 0 - z 17) / z 3)
def st3 (k : Nat) (z : Nat → Int32) : Nat → Int32 := upd z (35 + 7 * k + 0) (if 0 ≤ z (35 + 7 * k + 0) then z (35 + 7 * k + 0) else 0)
def step (k : Nat) (z : Nat → Int32) : Nat → Int32 := st3 k (st2 k (st1 k z))
def layE (G : Nat → Int32) : Nat → Int32 := upd (upd (upd G 5 1000000) 6 (-1)) 7 0
theorem zOK_m1 {z : Nat → Int32} (h : zOK z) : z 16 - 1 = nI (mOf z - 1) := by
  have h1 := h.2.2.2.2.1
  rw [h.2.2.2.1, show (1 : Int32) = nI 1 from rfl, pk_sub h1]
theorem zOK_m0 {z : Nat → Int32} (h : zOK z) : ¬ z 16 = 0 := by
  have h1 := h.2.2.2.2.1
  have h2 := h.2.2.1
  have h3 := h.2.2.2.2.2.1
  rw [h.2.2.2.1]
  exact nI_ne0 (by omega) (by omega)
theorem st1_lt {k j : Nat} {z : Nat → Int32} (h : j < 35) (h2 : j ≠ 25) : st1 k z j = z j := by
  unfold st1
  split
  · rfl
  · split
    · rfl
    · rw [pk_un h2, pk_un (by omega), pk_un (by omega)]
theorem st2_lt {k j : Nat} {z : Nat → Int32} (h : j < 35) : st2 k z j = z j := by
  unfold st2
  split
  · rw [pk_un (by omega)]
  · rw [pk_un (by omega), pk_un (by omega), pk_un (by omega)]
theorem st3_lt {k j : Nat} {z : Nat → Int32} (h : j < 35) : st3 k z j = z j := by
  unfold st3
  rw [pk_un (by omega)]
theorem step_lt {k j : Nat} {z : Nat → Int32} (h : j < 35) (h2 : j ≠ 25) : step k z j = z j := by
  unfold step
  rw [st3_lt h, st2_lt h, st1_lt h h2]
theorem bpSkip_lt {k j : Nat} {z : Nat → Int32} (h : j < 35) (h2 : j ≠ 26) : bpSkip k z j = z j := by
  unfold bpSkip
  rw [pk_un h2, pk_un (by omega), pk_un (by omega)]
theorem bpGo_lt {k j : Nat} {z : Nat → Int32} (h : j < 35) : bpGo k z j = z j := by
  unfold bpGo
  rw [pk_un (by omega), pk_un (by omega), pk_un (by omega)]
theorem beginP_lt {k j : Nat} {v : Int32} {z : Nat → Int32} (h : j < 35) (h2 : j ≠ 26) : beginP k v z j = z j := by
  unfold beginP
  split
  · exact bpGo_lt h
  · split
    · exact bpSkip_lt h h2
    · split
      · exact bpGo_lt h
      · exact bpSkip_lt h h2
def firstT (k : Nat) : Int32 := [12000, 3300, 1000, 20, 50, 8000, 50, 20, 100, 300, 3000, 1000, 5000, 4000, 100].getD k 0
def lowT (k : Nat) : Int32 := [1000, 500, 0, 1, 1, 100, 0, 0, 1, 0, 1, 0, 500, 0, 0].getD k 0
def highT (k : Nat) : Int32 := [24000, 12000, 60000, 100, 500, 30000, 500, 500, 2000, 10000, 30000, 30000, 30000, 24000, 1000].getD k 0
def placeT (k : Nat) : Nat := [20, 17, 18, 16, 24, 22, 19, 21, 23, 25, 26, 27, 28, 15, 31].getD k 0
/-- one phase's chance to begin its pulse in the slot v, the mean current being a -/
def sbp (v a : Int32) (i : Nat) (z : Nat → Int32) : Nat → Int32 := if runsI z = 0 then z else (if v = 20 * nI i / z 16 then beginP i a z else z)
def slotA (v a : Int32) : Nat → Nat → (Nat → Int32) → (Nat → Int32)
  | 0, _, z => z
  | n + 1, i, z => slotA v a n (i + 1) (sbp v a i z)
def sgI (i : Nat) (z G : Nat → Int32) : Int32 := if step i z (35 + 7 * i + 0) ≤ G 7 then G 7 else step i z (35 + 7 * i + 0)
def slotB : Nat → Nat → (Nat → Int32) → (Nat → Int32) → (Nat → Int32) × (Nat → Int32)
  | 0, _, z, G => (z, G)
  | n + 1, i, z, G => slotB n (i + 1) (step i z) (upd G 7 (sgI i z G))
def slotC (z : Nat → Int32) : Nat → Int32 := upd z 17 (clampI (z 17 + (sumC (nOf z) z - z 2) / z 4) 0 40000)
def slotD (z : Nat → Int32) : Nat → Int32 := if runsI z = 0 then z else (if z 17 ≤ z 12 then z else stopTo 3 z)
def slotG (z G : Nat → Int32) : Nat → Int32 := upd (upd G 5 (if G 5 ≤ z 17 then G 5 else z 17)) 6 (if z 17 ≤ G 6 then G 6 else z 17)
def slotE (z G : Nat → Int32) : (Nat → Int32) × (Nat → Int32) := (slotD (slotC z), slotG (slotD (slotC z)) G)
def slotT (z G : Nat → Int32) : (Nat → Int32) × (Nat → Int32) := slotE (slotB (nOf z) 0 z G).1 (slotB (nOf z) 0 z G).2
/-- a slot -/
def slot (v a : Int32) (z G : Nat → Int32) : (Nat → Int32) × (Nat → Int32) := slotT (slotA v a (mOf z) 0 z) G
theorem slot_eq {v a : Int32} {z G z1 z2 G2 : Nat → Int32} (h1 : z1 = slotA v a (mOf z) 0 z) (h2 : (z2, G2) = slotB (nOf z1) 0 z1 G) : slot v a z G = slotE z2 G2 := by
  unfold slot slotT
  rw [← h1, ← h2]
theorem aim_lt {j : Nat} {z : Nat → Int32} (h : j ≠ 18) (h2 : j ≠ 20) : aim z j = z j := by
  unfold aim
  split
  · split
    · rw [pk_un h]
    · rw [pk_un h2, pk_un h, pk_un h]
  · split
    · rw [pk_un h]
    · rfl
theorem aim_OK {z : Nat → Int32} (h : zOK z) : zOK (aim z) := zOK_of h (aim_lt (by omega) (by omega)) (aim_lt (by omega) (by omega)) (aim_lt (by omega) (by omega)) (aim_lt (by omega) (by omega)) (aim_lt (by omega) (by omega))
theorem regulate_lt {j : Nat} {z : Nat → Int32} (h : j ≠ 19) (h2 : j ≠ 21) : regulate z j = z j := by
  unfold regulate
  rw [pk_un h2, pk_un h]
theorem regulate_OK {z : Nat → Int32} (h : zOK z) : zOK (regulate z) := zOK_of h (regulate_lt (by omega) (by omega)) (regulate_lt (by omega) (by omega)) (regulate_lt (by omega) (by omega)) (regulate_lt (by omega) (by omega)) (regulate_lt (by omega) (by omega))
theorem stopL_lt {j : Nat} (h : j < 35) : ∀ (n i : Nat) (z : Nat → Int32), stopL n i z j = z j := by
  intro n
  induction n with
  | zero => intro i z; rfl
  | succ n ih =>
    intro i z
    show stopL n (i + 1) _ j = z j
    rw [ih, pk_un (by omega)]
theorem stopTo_lt {v : Int32} {j : Nat} {z : Nat → Int32} (h : j < 35) (h2 : j ≠ 20) : stopTo v z j = z j := by
  unfold stopTo
  rw [stopL_lt h, pk_un h2]
theorem stopTo_OK {v : Int32} {z : Nat → Int32} (h : zOK z) : zOK (stopTo v z) := zOK_of h (stopTo_lt (by omega) (by omega)) (stopTo_lt (by omega) (by omega)) (stopTo_lt (by omega) (by omega)) (stopTo_lt (by omega) (by omega)) (stopTo_lt (by omega) (by omega))
theorem step_OK {k : Nat} {z : Nat → Int32} (h : zOK z) : zOK (step k z) := zOK_of h (step_lt (by omega) (by omega)) (step_lt (by omega) (by omega)) (step_lt (by omega) (by omega)) (step_lt (by omega) (by omega)) (step_lt (by omega) (by omega))
theorem sbp_lt {v a : Int32} {i j : Nat} {z : Nat → Int32} (h : j < 35) (h2 : j ≠ 26) : sbp v a i z j = z j := by
  unfold sbp
  split
  · rfl
  · split
    · exact beginP_lt h h2
    · rfl
theorem sbp_OK {v a : Int32} {i : Nat} {z : Nat → Int32} (h : zOK z) : zOK (sbp v a i z) := zOK_of h (sbp_lt (by omega) (by omega)) (sbp_lt (by omega) (by omega)) (sbp_lt (by omega) (by omega)) (sbp_lt (by omega) (by omega)) (sbp_lt (by omega) (by omega))
theorem slotA_lt {v a : Int32} {j : Nat} (h : j < 35) (h2 : j ≠ 26) : ∀ (n i : Nat) (z : Nat → Int32), slotA v a n i z j = z j := by
  intro n
  induction n with
  | zero => intro i z; rfl
  | succ n ih =>
    intro i z
    show slotA v a n (i + 1) _ j = z j
    rw [ih, sbp_lt h h2]
theorem slotA_OK {v a : Int32} {n i : Nat} {z : Nat → Int32} (h : zOK z) : zOK (slotA v a n i z) := zOK_of h (slotA_lt (by omega) (by omega) _ _ _) (slotA_lt (by omega) (by omega) _ _ _) (slotA_lt (by omega) (by omega) _ _ _) (slotA_lt (by omega) (by omega) _ _ _) (slotA_lt (by omega) (by omega) _ _ _)
theorem slotB_lt {j : Nat} (h : j < 35) (h2 : j ≠ 25) : ∀ (n i : Nat) (z G : Nat → Int32), (slotB n i z G).1 j = z j := by
  intro n
  induction n with
  | zero => intro i z G; rfl
  | succ n ih =>
    intro i z G
    show (slotB n (i + 1) _ _).1 j = z j
    rw [ih, step_lt h h2]
theorem slotB_OK {n i : Nat} {z G : Nat → Int32} (h : zOK z) : zOK (slotB n i z G).1 := zOK_of h (slotB_lt (by omega) (by omega) _ _ _ _) (slotB_lt (by omega) (by omega) _ _ _ _) (slotB_lt (by omega) (by omega) _ _ _ _) (slotB_lt (by omega) (by omega) _ _ _ _) (slotB_lt (by omega) (by omega) _ _ _ _)
theorem slotC_lt {j : Nat} {z : Nat → Int32} (h : j ≠ 17) : slotC z j = z j := pk_un h
theorem slotC_OK {z : Nat → Int32} (h : zOK z) : zOK (slotC z) := zOK_of h (slotC_lt (by omega)) (slotC_lt (by omega)) (slotC_lt (by omega)) (slotC_lt (by omega)) (slotC_lt (by omega))
theorem slotD_lt {j : Nat} {z : Nat → Int32} (h : j < 35) (h2 : j ≠ 20) : slotD z j = z j := by
  unfold slotD
  split
  · rfl
  · split
    · rfl
    · exact stopTo_lt h h2
theorem slotD_OK {z : Nat → Int32} (h : zOK z) : zOK (slotD z) := zOK_of h (slotD_lt (by omega) (by omega)) (slotD_lt (by omega) (by omega)) (slotD_lt (by omega) (by omega)) (slotD_lt (by omega) (by omega)) (slotD_lt (by omega) (by omega))
theorem slot_OK {v a : Int32} {z G : Nat → Int32} (h : zOK z) : zOK (slot v a z G).1 := slotD_OK (slotC_OK (slotB_OK (slotA_OK h)))
theorem slot_lt {v a : Int32} {z G : Nat → Int32} {j : Nat} (h : j < 35) (h2 : j ≠ 17) (h3 : j ≠ 20) (h4 : j ≠ 25) (h5 : j ≠ 26) : (slot v a z G).1 j = z j := by
  show slotD (slotC _) j = z j
  rw [slotD_lt h h3, slotC_lt h2, slotB_lt h h4, slotA_lt h h5]
/-- the records move by one -/
def recL : Nat → (Nat → Int32) → (Nat → Int32)
  | 0, z => z
  | n + 1, z => recL n (upd z (68 + n + 1) (z (62 + n + 1)))
theorem rec_ix (n : Nat) : nI (68 + n + 1) - 6 = nI (62 + n + 1) := by
  rw [show (6 : Int32) = nI 6 from rfl, pk_sub (by omega), show 68 + n + 1 - 6 = 62 + n + 1 by omega]
def recordZ (v : Int32) (z : Nat → Int32) : Nat → Int32 :=
  upd (upd (upd (upd (upd (upd (upd (recL 90 z) 63 (recL 90 z 17)) 64 (recL 90 z 22)) 65 (recL 90 z 23)) 66 (recL 90 z 16)) 67 (recL 90 z 20)) 68 v) 31 (recL 90 z 31 + (if (16 : Int32) ≤ recL 90 z 31 then 0 else 1))
def cy1 (z : Nat → Int32) : Nat → Int32 := if runsI z = 0 then z else (if z 13 ≤ z 0 then z else stopTo 4 z)
def cy3 (z : Nat → Int32) : Nat → Int32 := if runsI z = 0 then z else choose (regulate z)
def loI (i : Nat) (z G : Nat → Int32) (y a : Int32) : Int32 := if y ≤ (slot (nI i) a z G).1 17 then y else (slot (nI i) a z G).1 17
def hiI (i : Nat) (z G : Nat → Int32) (y a : Int32) : Int32 := if (slot (nI i) a z G).1 17 ≤ y then y else (slot (nI i) a z G).1 17
def cycL (a : Int32) : Nat → Nat → (Nat → Int32) → (Nat → Int32) → Int32 → Int32 → Int32 → (Nat → Int32) × (Nat → Int32) × Int32 × Int32 × Int32
  | 0, _, z, G, x, lo, hi => (z, G, x, lo, hi)
  | n + 1, i, z, G, x, lo, hi => cycL a n (i + 1) (slot (nI i) a z G).1 (slot (nI i) a z G).2 (x + sumC (nOf (slot (nI i) a z G).1) (slot (nI i) a z G).1) (loI i z G lo a) (hiI i z G hi a)
/-- a cycle's end: z behind the slots, l the limit events before them -/
def cyE (l : Int32) (u : (Nat → Int32) × (Nat → Int32) × Int32 × Int32 × Int32) : (Nat → Int32) × (Nat → Int32) :=
  (recordZ (u.1 25 - l) (upd (upd (upd (upd u.1 22 (u.2.2.1 / 20)) 23 (u.2.2.2.2 - u.2.2.2.1)) 27 (if u.2.1 7 ≤ u.1 27 then u.1 27 else u.2.1 7)) 24 (u.1 24 + 1)), u.2.1)
/-- a cycle -/
def cycle (z G : Nat → Int32) : (Nat → Int32) × (Nat → Int32) :=
  cyE (cy3 (aim (cy1 z)) 25) (cycL (aim (cy1 z) 22) 20 0 (cy3 (aim (cy1 z))) G 0 1000000 (-1))
theorem cycle_eq {z G z1 z2 : Nat → Int32} {u : (Nat → Int32) × (Nat → Int32) × Int32 × Int32 × Int32} (h1 : z1 = cy1 z) (h2 : z2 = cy3 (aim (cy1 z))) (h3 : u = cycL (aim z1 22) 20 0 z2 G 0 1000000 (-1)) : cycle z G = cyE (z2 25) u := by
  unfold cycle
  rw [h3, h1, h2]
theorem cy1_OK {z : Nat → Int32} (h : zOK z) : zOK (cy1 z) := by
  unfold cy1
  split
  · exact h
  · split
    · exact h
    · exact stopTo_OK h
theorem changePh_OK {v : Int32} {j : Nat} {z : Nat → Int32} (h : zOK z) (hv : v = nI j) (h1 : 1 ≤ j) (h2 : j ≤ nOf z) : zOK (changePh v z) := by
  have e15 : changePh v z 15 = z 15 := by unfold changePh; rw [pk_un (by omega), pk_un (by omega), pk_un (by omega), pk_un (by omega)]
  have e16 : changePh v z 16 = v := by unfold changePh; rw [pk_un (by omega), pk_un (by omega), pk_un (by omega), pk_us]
  have e0 : changePh v z 0 = z 0 := by unfold changePh; rw [pk_un (by omega), pk_un (by omega), pk_un (by omega), pk_un (by omega)]
  have e3 : changePh v z 3 = z 3 := by unfold changePh; rw [pk_un (by omega), pk_un (by omega), pk_un (by omega), pk_un (by omega)]
  have e4 : changePh v z 4 = z 4 := by unfold changePh; rw [pk_un (by omega), pk_un (by omega), pk_un (by omega), pk_un (by omega)]
  have hn := h.2.2.1
  have en : nOf (changePh v z) = nOf z := by unfold nOf; rw [e15]
  have em : mOf (changePh v z) = j := by unfold mOf; rw [e16, hv]; exact nI_clamp (by omega)
  refine ⟨by rw [en, e15]; exact h.1, by rw [en]; exact h.2.1, by rw [en]; exact hn, by rw [em, e16]; exact hv, by rw [em]; exact h1, by rw [em, en]; exact h2, by rw [e0]; exact h.2.2.2.2.2.2.1, by rw [e3]; exact h.2.2.2.2.2.2.2.1, by rw [e4]; exact h.2.2.2.2.2.2.2.2⟩
theorem upd_OK {k : Nat} {v : Int32} {z : Nat → Int32} (h : zOK z) (h15 : k ≠ 15) (h16 : k ≠ 16) (h0 : k ≠ 0) (h3 : k ≠ 3) (h4 : k ≠ 4) : zOK (upd z k v) := zOK_of h (pk_un (Ne.symm h15)) (pk_un (Ne.symm h16)) (pk_un (Ne.symm h0)) (pk_un (Ne.symm h3)) (pk_un (Ne.symm h4))
theorem choose_OK {z : Nat → Int32} (h : zOK z) : zOK (choose z) := by
  have hn := h.2.2.1
  have hm := h.2.2.2.2.1
  have hmn := h.2.2.2.2.2.1
  unfold choose
  split
  · rename_i h1
    refine changePh_OK (j := mOf z + 1) (upd_OK h (by omega) (by omega) (by omega) (by omega) (by omega)) ?_ (by omega) ?_
    · rw [h.2.2.2.1]; exact nI_1 _
    · have e : nOf (upd z 29 (adI z)) = nOf z := by unfold nOf; rw [pk_un (by omega)]
      rw [e]
      unfold adI at h1
      split at h1
      · exact absurd h1 (by decide)
      · split at h1
        · exact absurd h1 (by decide)
        · rename_i h2
          rw [h.1, h.2.2.2.1] at h2
          rcases Nat.lt_or_ge (mOf z) (nOf z) with q | q
          · exact q
          · exact absurd (nI_le q (by omega)) h2
  · split
    · rename_i h1 h5
      refine upd_OK (changePh_OK (j := mOf z - 1) (upd_OK (upd_OK h (by omega) (by omega) (by omega) (by omega) (by omega)) (by omega) (by omega) (by omega) (by omega) (by omega)) ?_ ?_ ?_) (by omega) (by omega) (by omega) (by omega) (by omega)
      · exact zOK_m1 h
      · unfold shI at h5
        split at h5
        · exact absurd h5 (by decide)
        · rename_i h2
          rw [h.2.2.2.1] at h2
          rcases Nat.lt_or_ge 1 (mOf z) with q | q
          · omega
          · exact absurd (nI_le (b := 1) q (by omega)) h2
      · have e : nOf (upd (upd z 29 (adI z)) 30 (shI z)) = nOf z := by unfold nOf; rw [pk_un (by omega), pk_un (by omega)]
        rw [e]
        omega
    · exact upd_OK (upd_OK h (by omega) (by omega) (by omega) (by omega) (by omega)) (by omega) (by omega) (by omega) (by omega) (by omega)
theorem cy3_OK {z : Nat → Int32} (h : zOK z) : zOK (cy3 z) := by
  unfold cy3
  split
  · exact h
  · exact choose_OK (regulate_OK h)
end
section
set_option maxHeartbeats 4000000 in
set_option maxRecDepth 100000 in
theorem c_X5_within (l : Launch) (E : EE) (v lo hi : Int32) : GM l yX5_within wsX5_within 0 0 E ([]) [.int v, .int lo, .int hi] ([]) (some (.int (within v lo hi))) := by
  intro sz
  refine Met.ofW (cc := cX5_within) (maxL := 3) (ret := (some .boolean)) (by decide) rfl ?_
  intro p e s m args below meth c s₁ B hml hv
  obtain ⟨rfl, rfl, hP, hK, hD0, hN⟩ := hv
  have hx := B.exec
  have hb := B.bytes
  have hr := B.returns
  have hts := atoms_spec (ws := wsX5_within) B.pre
  have hown : s.vm.findClass RX5 = some m.cls := findClass_of_methodNamed B.named
  have hlocks := B.notSynchronized
  have hD := hD0.self (sz := s.heap.size)
  have hA : ∀ q : Nat, s.heap.size ≤ q → va_A ([]) s.heap.size q := fun q h => Or.inr h
  have hS : va_S (va_A ([]) s.heap.size) s.heap s.heap [] := va_S.rf
  have hl := lv_entry ([.int v, .int lo, .int hi]) (n := 3) (Nat.le_of_ble_eq_true rfl)
  rw [lg_entry_eq]
  generalize (lg_sl ([.int v, .int lo, .int hi]) ++ List.replicate (3 - (lg_sl ([.int v, .int lo, .int hi])).length) Slot.unset).toArray = ls at hl ⊢
  have hl : lv_has ls 3 [(0, .int v), (1, .int lo), (2, .int hi)] := hl
  refine lv_iload_n hx hb dX5_within_0 rfl (lv_at hl 0 rfl) ?_
  refine lv_iload_n hx hb dX5_within_1 rfl (lv_at hl 1 rfl) ?_
  refine lv_icmp_lt (tgt := 14) hx hb dX5_within_2 (by decide) (fun c_2 => ?_) (fun c_2 => ?_)
  · refine lv_iconst (v := 0) hx hb dX5_within_14 (by decide) ?_
    exact gretz hx hb hr hlocks hP hD hS (by first | exact Or.inl rfl | exact Or.inr rfl) (by simp only [within, if_pos c_2]) (rfl) dX5_within_15
  · refine lv_iload_n hx hb dX5_within_5 rfl (lv_at hl 0 rfl) ?_
    refine lv_iload_n hx hb dX5_within_6 rfl (lv_at hl 2 rfl) ?_
    refine lv_icmp_gt (tgt := 14) hx hb dX5_within_7 (by decide) (fun c_7 => ?_) (fun c_7 => ?_)
    · refine lv_iconst (v := 0) hx hb dX5_within_14 (by decide) ?_
      exact gretz hx hb hr hlocks hP hD hS (by first | exact Or.inl rfl | exact Or.inr rfl) (by simp only [within, if_neg c_2, if_pos c_7]) (rfl) dX5_within_15
    · refine lv_iconst (v := 1) hx hb dX5_within_10 (by decide) ?_
      refine lv_goto (tgt := 15) hx hb dX5_within_11 (by decide) ?_
      exact gretz hx hb hr hlocks hP hD hS (by first | exact Or.inl rfl | exact Or.inr rfl) (by simp only [within, if_neg c_2, if_neg c_7]) (rfl) dX5_within_15

set_option maxHeartbeats 4000000 in
set_option maxRecDepth 100000 in
theorem c_X5_clamped (l : Launch) (E : EE) (v lo hi : Int32) : GM l yX5_clamped wsX5_clamped 0 0 E ([]) [.int v, .int lo, .int hi] ([]) (some (.int (clampI v lo hi))) := by
  intro sz
  refine Met.ofW (cc := cX5_clamped) (maxL := 3) (ret := (some .int)) (by decide) rfl ?_
  intro p e s m args below meth c s₁ B hml hv
  obtain ⟨rfl, rfl, hP, hK, hD0, hN⟩ := hv
  have hx := B.exec
  have hb := B.bytes
  have hr := B.returns
  have hts := atoms_spec (ws := wsX5_clamped) B.pre
  have hown : s.vm.findClass RX5 = some m.cls := findClass_of_methodNamed B.named
  have hlocks := B.notSynchronized
  have hD := hD0.self (sz := s.heap.size)
  have hA : ∀ q : Nat, s.heap.size ≤ q → va_A ([]) s.heap.size q := fun q h => Or.inr h
  have hS : va_S (va_A ([]) s.heap.size) s.heap s.heap [] := va_S.rf
  have hl := lv_entry ([.int v, .int lo, .int hi]) (n := 3) (Nat.le_of_ble_eq_true rfl)
  rw [lg_entry_eq]
  generalize (lg_sl ([.int v, .int lo, .int hi]) ++ List.replicate (3 - (lg_sl ([.int v, .int lo, .int hi])).length) Slot.unset).toArray = ls at hl ⊢
  have hl : lv_has ls 3 [(0, .int v), (1, .int lo), (2, .int hi)] := hl
  refine lv_iload_n hx hb dX5_clamped_0 rfl (lv_at hl 0 rfl) ?_
  refine lv_iload_n hx hb dX5_clamped_1 rfl (lv_at hl 1 rfl) ?_
  refine lv_icmp_ge (tgt := 9) hx hb dX5_clamped_2 (by decide) (fun c_2 => ?_) (fun c_2 => ?_)
  · refine lv_iload_n hx hb dX5_clamped_9 rfl (lv_at hl 0 rfl) ?_
    refine lv_iload_n hx hb dX5_clamped_10 rfl (lv_at hl 2 rfl) ?_
    refine lv_icmp_le (tgt := 18) hx hb dX5_clamped_11 (by decide) (fun c_11 => ?_) (fun c_11 => ?_)
    · refine lv_iload_n hx hb dX5_clamped_18 rfl (lv_at hl 0 rfl) ?_
      exact greti hx hb hr hlocks hP hD hS (by simp only [clampI, if_pos c_2, if_pos c_11]) (rfl) dX5_clamped_19
    · refine lv_iload_n hx hb dX5_clamped_14 rfl (lv_at hl 2 rfl) ?_
      refine lv_goto (tgt := 19) hx hb dX5_clamped_15 (by decide) ?_
      exact greti hx hb hr hlocks hP hD hS (by simp only [clampI, if_pos c_2, if_neg c_11]) (rfl) dX5_clamped_19
  · refine lv_iload_n hx hb dX5_clamped_5 rfl (lv_at hl 1 rfl) ?_
    refine lv_goto (tgt := 19) hx hb dX5_clamped_6 (by decide) ?_
    exact greti hx hb hr hlocks hP hD hS (by simp only [clampI, if_neg c_2]) (rfl) dX5_clamped_19

set_option maxHeartbeats 4000000 in
set_option maxRecDepth 100000 in
theorem c_X5_at (l : Launch) (E : EE) (k0 k1 : Nat) : GM l yX5_at wsX5_at 0 0 E ([]) [.int (nI k0), .int (nI k1)] ([]) (some (.int (nI (35 + 7 * k0 + k1)))) := by
  intro sz
  refine Met.ofW (cc := cX5_at) (maxL := 2) (ret := (some .int)) (by decide) rfl ?_
  intro p e s m args below meth c s₁ B hml hv
  obtain ⟨rfl, rfl, hP, hK, hD0, hN⟩ := hv
  have hx := B.exec
  have hb := B.bytes
  have hr := B.returns
  have hts := atoms_spec (ws := wsX5_at) B.pre
  have hown : s.vm.findClass RX5 = some m.cls := findClass_of_methodNamed B.named
  have hlocks := B.notSynchronized
  have hD := hD0.self (sz := s.heap.size)
  have hA : ∀ q : Nat, s.heap.size ≤ q → va_A ([]) s.heap.size q := fun q h => Or.inr h
  have hS : va_S (va_A ([]) s.heap.size) s.heap s.heap [] := va_S.rf
  have hl := lv_entry ([.int (nI k0), .int (nI k1)]) (n := 2) (Nat.le_of_ble_eq_true rfl)
  rw [lg_entry_eq]
  generalize (lg_sl ([.int (nI k0), .int (nI k1)]) ++ List.replicate (2 - (lg_sl ([.int (nI k0), .int (nI k1)])).length) Slot.unset).toArray = ls at hl ⊢
  have hl : lv_has ls 2 [(0, .int (nI k0)), (1, .int (nI k1))] := hl
  refine lv_bipush (v := 35) hx hb dX5_at_0 (by decide) ?_
  refine lv_bipush (v := 7) hx hb dX5_at_2 (by decide) ?_
  refine lv_iload_n hx hb dX5_at_4 rfl (lv_at hl 0 rfl) ?_
  refine lv_imul hx hb dX5_at_5 ?_
  refine lv_iadd hx hb dX5_at_6 ?_
  refine lv_iload_n hx hb dX5_at_7 rfl (lv_at hl 1 rfl) ?_
  refine lv_iadd hx hb dX5_at_8 ?_
  exact greti hx hb hr hlocks hP hD hS (by rw [show (35 : Int32) = nI 35 from rfl, show (7 : Int32) = nI 7 from rfl, pk_mul, nI_add, nI_add]) (rfl) dX5_at_9

set_option maxHeartbeats 4000000 in
set_option maxRecDepth 100000 in
theorem c_X5_isSetting (l : Launch) (E : EE) (v : Int32) : GM l yX5_isSetting wsX5_isSetting 1 22 E ([]) [.int v] ([]) (some (.int (within v 0 14))) := by
  intro sz
  refine Met.ofW (cc := cX5_isSetting) (maxL := 1) (ret := (some .boolean)) (by decide) rfl ?_
  intro p e s m args below meth c s₁ B hml hv
  obtain ⟨rfl, rfl, hP, hK, hD0, hN⟩ := hv
  have hx := B.exec
  have hb := B.bytes
  have hr := B.returns
  have hts := atoms_spec (ws := wsX5_isSetting) B.pre
  have hown : s.vm.findClass RX5 = some m.cls := findClass_of_methodNamed B.named
  have hlocks := B.notSynchronized
  have hD := hD0.self (sz := s.heap.size)
  have hA : ∀ q : Nat, s.heap.size ≤ q → va_A ([]) s.heap.size q := fun q h => Or.inr h
  have hS : va_S (va_A ([]) s.heap.size) s.heap s.heap [] := va_S.rf
  have hl := lv_entry ([.int v]) (n := 1) (Nat.le_of_ble_eq_true rfl)
  rw [lg_entry_eq]
  generalize (lg_sl ([.int v]) ++ List.replicate (1 - (lg_sl ([.int v])).length) Slot.unset).toArray = ls at hl ⊢
  have hl : lv_has ls 1 [(0, .int v)] := hl
  refine lv_iload_n hx hb dX5_isSetting_0 rfl (lv_at hl 0 rfl) ?_
  refine lv_iconst (v := 0) hx hb dX5_isSetting_1 (by decide) ?_
  refine lv_bipush (v := 14) hx hb dX5_isSetting_2 (by decide) ?_
  refine gsPi (As := [.int v, .int 0, .int 14]) (rest := []) ⟨hx, hb, hml, hown, hts⟩ (c_X5_within l E v 0 14) (va_cwS 3 hts gX5_isSetting_X5_within rfl rfl rfl (by decide +kernel) ⟨Nat.le_of_ble_eq_true rfl, Nat.le_of_ble_eq_true rfl⟩) hP hK hD hN hS hA rfl hl.1 rfl (Nat.le_of_ble_eq_true rfl) dX5_isSetting_4 ⟨Nat.le_refl _, Nat.le_refl _⟩ (fun H locs hP hD hS => ?_)
  exact gretz hx hb hr hlocks hP hD hS (within_01 _ _ _) (rfl) (rfl) dX5_isSetting_7

set_option maxHeartbeats 4000000 in
set_option maxRecDepth 100000 in
theorem c_X5_runs (l : Launch) (E : EE) (A : Nat → Nat) (G z a t r : Nat → Int32) (h : Int64) : GM l yX5_runs wsX5_runs 0 0 E (wM E A G z a t r h) [.ref (A 0)] (wM E A G z a t r h) (some (.int (runsI z))) := by
  intro sz
  refine Met.ofW (cc := cX5_runs) (maxL := 1) (ret := (some .boolean)) (by decide) rfl ?_
  intro p e s m args below meth c s₁ B hml hv
  obtain ⟨rfl, rfl, hP, hK, hD0, hN⟩ := hv
  have hx := B.exec
  have hb := B.bytes
  have hr := B.returns
  have hts := atoms_spec (ws := wsX5_runs) B.pre
  have hown : s.vm.findClass RX5 = some m.cls := findClass_of_methodNamed B.named
  have hlocks := B.notSynchronized
  have hD := hD0.self (sz := s.heap.size)
  have hA : ∀ q : Nat, s.heap.size ≤ q → va_A (wM E A G z a t r h) s.heap.size q := fun q h => Or.inr h
  have hS : va_S (va_A (wM E A G z a t r h) s.heap.size) s.heap s.heap [] := va_S.rf
  have hl := lv_entry ([.ref (A 0)]) (n := 1) (Nat.le_of_ble_eq_true rfl)
  rw [lg_entry_eq]
  generalize (lg_sl ([.ref (A 0)]) ++ List.replicate (1 - (lg_sl ([.ref (A 0)])).length) Slot.unset).toArray = ls at hl ⊢
  have hl : lv_has ls 1 [(0, .ref (A 0))] := hl
  have hf7 := hts (.fieldLink RX5 7 "PhaseConverterModel" "z" "[I") (by decide +kernel)
  have hiX5 : ∀ w ∈ u_ws RX5 TX5 15, w ∈ wsX5_runs := by decide +kernel
  refine lv_aload_n hx hb dX5_runs_0 rfl (lv_at hl 0 rfl) ?_
  refine va_get (D := E.1) (ci := 5) (v := .ref (A 1)) (C := RX5) (T := TX5) (N := 15) hx hb hts hiX5 hown hK hP 0 rfl rfl 1 (by decide) hf7 (fun _ h9 => h9) rfl dX5_runs_1 ?_
  refine lv_bipush (v := 20) hx hb dX5_runs_4 (by decide) ?_
  refine gald (x := z 20) hx hb hK hP 1 rfl 20 (rfl) (by decide) (by decide) rfl dX5_runs_6 ?_
  refine lv_iconst (v := 1) hx hb dX5_runs_7 (by decide) ?_
  refine lv_icmp_eq (tgt := 22) hx hb dX5_runs_8 (by decide) (fun c_8 => ?_) (fun c_8 => ?_)
  · refine lv_iconst (v := 1) hx hb dX5_runs_22 (by decide) ?_
    refine lv_goto (tgt := 27) hx hb dX5_runs_23 (by decide) ?_
    exact gretz hx hb hr hlocks hP hD hS (by first | exact Or.inl rfl | exact Or.inr rfl) (by simp only [runsI, if_pos c_8]) (rfl) dX5_runs_27
  · refine lv_aload_n hx hb dX5_runs_11 rfl (lv_at hl 0 rfl) ?_
    refine va_get (D := E.1) (ci := 5) (v := .ref (A 1)) (C := RX5) (T := TX5) (N := 15) hx hb hts hiX5 hown hK hP 0 rfl rfl 1 (by decide) hf7 (fun _ h9 => h9) rfl dX5_runs_12 ?_
    refine lv_bipush (v := 20) hx hb dX5_runs_15 (by decide) ?_
    refine gald (x := z 20) hx hb hK hP 1 rfl 20 (rfl) (by decide) (by decide) rfl dX5_runs_17 ?_
    refine lv_iconst (v := 2) hx hb dX5_runs_18 (by decide) ?_
    refine lv_icmp_ne (tgt := 26) hx hb dX5_runs_19 (by decide) (fun c_19 => ?_) (fun c_19 => ?_)
    · refine lv_iconst (v := 0) hx hb dX5_runs_26 (by decide) ?_
      exact gretz hx hb hr hlocks hP hD hS (by first | exact Or.inl rfl | exact Or.inr rfl) (by simp only [runsI, if_neg c_8, if_neg c_19]) (rfl) dX5_runs_27
    · refine lv_iconst (v := 1) hx hb dX5_runs_22 (by decide) ?_
      refine lv_goto (tgt := 27) hx hb dX5_runs_23 (by decide) ?_
      exact gretz hx hb hr hlocks hP hD hS (by first | exact Or.inl rfl | exact Or.inr rfl) (by simp only [runsI, if_neg c_8, if_pos c_19]) (rfl) dX5_runs_27

set_option maxHeartbeats 4000000 in
set_option maxRecDepth 100000 in
theorem c_X5_thrown (l : Launch) (E : EE) (A : Nat → Nat) (G z a t r : Nat → Int32) (h : Int64) : GM l yX5_thrown wsX5_thrown 0 0 E (wM E A G z a t r h) [.ref (A 0)] (wM E A G z a t r h) (some (.int (G 0))) := by
  intro sz
  refine Met.ofW (cc := cX5_thrown) (maxL := 1) (ret := (some .int)) (by decide) rfl ?_
  intro p e s m args below meth c s₁ B hml hv
  obtain ⟨rfl, rfl, hP, hK, hD0, hN⟩ := hv
  have hx := B.exec
  have hb := B.bytes
  have hr := B.returns
  have hts := atoms_spec (ws := wsX5_thrown) B.pre
  have hown : s.vm.findClass RX5 = some m.cls := findClass_of_methodNamed B.named
  have hlocks := B.notSynchronized
  have hD := hD0.self (sz := s.heap.size)
  have hA : ∀ q : Nat, s.heap.size ≤ q → va_A (wM E A G z a t r h) s.heap.size q := fun q h => Or.inr h
  have hS : va_S (va_A (wM E A G z a t r h) s.heap.size) s.heap s.heap [] := va_S.rf
  have hl := lv_entry ([.ref (A 0)]) (n := 1) (Nat.le_of_ble_eq_true rfl)
  rw [lg_entry_eq]
  generalize (lg_sl ([.ref (A 0)]) ++ List.replicate (1 - (lg_sl ([.ref (A 0)])).length) Slot.unset).toArray = ls at hl ⊢
  have hl : lv_has ls 1 [(0, .ref (A 0))] := hl
  have hf26 := hts (.fieldLink RX5 26 "PhaseConverterModel" "thrown" "I") (by decide +kernel)
  have hiX5 : ∀ w ∈ u_ws RX5 TX5 15, w ∈ wsX5_thrown := by decide +kernel
  refine lv_aload_n hx hb dX5_thrown_0 rfl (lv_at hl 0 rfl) ?_
  refine va_get (D := E.1) (ci := 5) (v := .int (G 0)) (C := RX5) (T := TX5) (N := 15) hx hb hts hiX5 hown hK hP 0 rfl rfl 0 (by decide) hf26 (fun _ h9 => h9) rfl dX5_thrown_1 ?_
  exact greti hx hb hr hlocks hP hD hS (rfl) (rfl) dX5_thrown_4

set_option maxHeartbeats 4000000 in
set_option maxRecDepth 100000 in
theorem c_X5_changePhases (l : Launch) (E : EE) (A : Nat → Nat) (G z a t r : Nat → Int32) (h : Int64) (v0 : Int32) : GM l yX5_changePhases wsX5_changePhases 0 0 E (wM E A G z a t r h) [.ref (A 0), .int v0] (wM E A G (changePh v0 z) a t r h) (none) := by
  intro sz
  refine Met.ofW (cc := cX5_changePhases) (maxL := 2) (ret := none) (by decide) rfl ?_
  intro p e s m args below meth c s₁ B hml hv
  obtain ⟨rfl, rfl, hP, hK, hD0, hN⟩ := hv
  have hx := B.exec
  have hb := B.bytes
  have hr := B.returns
  have hts := atoms_spec (ws := wsX5_changePhases) B.pre
  have hown : s.vm.findClass RX5 = some m.cls := findClass_of_methodNamed B.named
  have hlocks := B.notSynchronized
  have hD := hD0.self (sz := s.heap.size)
  have hA : ∀ q : Nat, s.heap.size ≤ q → va_A (wM E A G z a t r h) s.heap.size q := fun q h => Or.inr h
  have hS : va_S (va_A (wM E A G z a t r h) s.heap.size) s.heap s.heap [] := va_S.rf
  have hl := lv_entry ([.ref (A 0), .int v0]) (n := 2) (Nat.le_of_ble_eq_true rfl)
  rw [lg_entry_eq]
  generalize (lg_sl ([.ref (A 0), .int v0]) ++ List.replicate (2 - (lg_sl ([.ref (A 0), .int v0])).length) Slot.unset).toArray = ls at hl ⊢
  have hl : lv_has ls 2 [(0, .ref (A 0)), (1, .int v0)] := hl
  have hf7 := hts (.fieldLink RX5 7 "PhaseConverterModel" "z" "[I") (by decide +kernel)
  have hiX5 : ∀ w ∈ u_ws RX5 TX5 15, w ∈ wsX5_changePhases := by decide +kernel
  refine lv_aload_n hx hb dX5_changePhases_0 rfl (lv_at hl 0 rfl) ?_
  refine va_get (D := E.1) (ci := 5) (v := .ref (A 1)) (C := RX5) (T := TX5) (N := 15) hx hb hts hiX5 hown hK hP 0 rfl rfl 1 (by decide) hf7 (fun _ h9 => h9) rfl dX5_changePhases_1 ?_
  refine lv_bipush (v := 16) hx hb dX5_changePhases_4 (by decide) ?_
  refine lv_iload_n hx hb dX5_changePhases_6 rfl (lv_at hl 1 rfl) ?_
  refine gast hx hb hK hP hD hS 1 rfl 16 (rfl) (by decide) (by decide) dX5_changePhases_7 (fun H locs hP hD hS => ?_)
  have hP : va_P E.1 vwCl (wM E A G (upd z 16 v0) a t r h) H := hP
  have hD : va_D _ (wM E A G (upd z 16 v0) a t r h) := hD
  refine lv_aload_n hx hb dX5_changePhases_8 rfl (lv_at hl 0 rfl) ?_
  refine va_get (D := E.1) (ci := 5) (v := .ref (A 1)) (C := RX5) (T := TX5) (N := 15) hx hb hts hiX5 hown hK hP 0 rfl rfl 1 (by decide) hf7 (fun _ h9 => h9) rfl dX5_changePhases_9 ?_
  refine lv_bipush (v := 29) hx hb dX5_changePhases_12 (by decide) ?_
  refine lv_iconst (v := 0) hx hb dX5_changePhases_14 (by decide) ?_
  refine gast hx hb hK hP hD hS 1 rfl 29 (rfl) (by decide) (by decide) dX5_changePhases_15 (fun H locs hP hD hS => ?_)
  have hP : va_P E.1 vwCl (wM E A G (upd (upd z 16 v0) 29 0) a t r h) H := hP
  have hD : va_D _ (wM E A G (upd (upd z 16 v0) 29 0) a t r h) := hD
  refine lv_aload_n hx hb dX5_changePhases_16 rfl (lv_at hl 0 rfl) ?_
  refine va_get (D := E.1) (ci := 5) (v := .ref (A 1)) (C := RX5) (T := TX5) (N := 15) hx hb hts hiX5 hown hK hP 0 rfl rfl 1 (by decide) hf7 (fun _ h9 => h9) rfl dX5_changePhases_17 ?_
  refine lv_bipush (v := 30) hx hb dX5_changePhases_20 (by decide) ?_
  refine lv_iconst (v := 0) hx hb dX5_changePhases_22 (by decide) ?_
  refine gast hx hb hK hP hD hS 1 rfl 30 (rfl) (by decide) (by decide) dX5_changePhases_23 (fun H locs hP hD hS => ?_)
  have hP : va_P E.1 vwCl (wM E A G (upd (upd (upd z 16 v0) 29 0) 30 0) a t r h) H := hP
  have hD : va_D _ (wM E A G (upd (upd (upd z 16 v0) 29 0) 30 0) a t r h) := hD
  refine lv_aload_n hx hb dX5_changePhases_24 rfl (lv_at hl 0 rfl) ?_
  refine va_get (D := E.1) (ci := 5) (v := .ref (A 1)) (C := RX5) (T := TX5) (N := 15) hx hb hts hiX5 hown hK hP 0 rfl rfl 1 (by decide) hf7 (fun _ h9 => h9) rfl dX5_changePhases_25 ?_
  refine lv_bipush (v := 28) hx hb dX5_changePhases_28 (by decide) ?_
  refine lv_dup2_11 hx hb dX5_changePhases_30 rfl rfl ?_
  refine gald (x := z 28) hx hb hK hP 1 rfl 28 (rfl) (by decide) (by decide) rfl dX5_changePhases_31 ?_
  refine lv_iconst (v := 1) hx hb dX5_changePhases_32 (by decide) ?_
  refine lv_iadd hx hb dX5_changePhases_33 ?_
  refine gast hx hb hK hP hD hS 1 rfl 28 (rfl) (by decide) (by decide) dX5_changePhases_34 (fun H locs hP hD hS => ?_)
  have hP : va_P E.1 vwCl (wM E A G (upd (upd (upd (upd z 16 v0) 29 0) 30 0) 28 ((z 28) + 1)) a t r h) H := hP
  have hD : va_D _ (wM E A G (upd (upd (upd (upd z 16 v0) 29 0) 30 0) 28 ((z 28) + 1)) a t r h) := hD
  exact gretv hx hb hr hlocks hP hD hS (rfl) dX5_changePhases_35

set_option maxHeartbeats 4000000 in
set_option maxRecDepth 100000 in
theorem c_X5_aim (l : Launch) (E : EE) (A : Nat → Nat) (G z a t r : Nat → Int32) (h : Int64) : GM l yX5_aim wsX5_aim 0 0 E (wM E A G z a t r h) [.ref (A 0)] (wM E A G (aim z) a t r h) (none) := by
  intro sz
  refine Met.ofW (cc := cX5_aim) (maxL := 1) (ret := none) (by decide) rfl ?_
  intro p e s m args below meth c s₁ B hml hv
  obtain ⟨rfl, rfl, hP, hK, hD0, hN⟩ := hv
  have hx := B.exec
  have hb := B.bytes
  have hr := B.returns
  have hts := atoms_spec (ws := wsX5_aim) B.pre
  have hown : s.vm.findClass RX5 = some m.cls := findClass_of_methodNamed B.named
  have hlocks := B.notSynchronized
  have hD := hD0.self (sz := s.heap.size)
  have hA : ∀ q : Nat, s.heap.size ≤ q → va_A (wM E A G z a t r h) s.heap.size q := fun q h => Or.inr h
  have hS : va_S (va_A (wM E A G z a t r h) s.heap.size) s.heap s.heap [] := va_S.rf
  have hl := lv_entry ([.ref (A 0)]) (n := 1) (Nat.le_of_ble_eq_true rfl)
  rw [lg_entry_eq]
  generalize (lg_sl ([.ref (A 0)]) ++ List.replicate (1 - (lg_sl ([.ref (A 0)])).length) Slot.unset).toArray = ls at hl ⊢
  have hl : lv_has ls 1 [(0, .ref (A 0))] := hl
  have hf7 := hts (.fieldLink RX5 7 "PhaseConverterModel" "z" "[I") (by decide +kernel)
  have hiX5 : ∀ w ∈ u_ws RX5 TX5 15, w ∈ wsX5_aim := by decide +kernel
  refine lv_aload_n hx hb dX5_aim_0 rfl (lv_at hl 0 rfl) ?_
  refine va_get (D := E.1) (ci := 5) (v := .ref (A 1)) (C := RX5) (T := TX5) (N := 15) hx hb hts hiX5 hown hK hP 0 rfl rfl 1 (by decide) hf7 (fun _ h9 => h9) rfl dX5_aim_1 ?_
  refine lv_bipush (v := 20) hx hb dX5_aim_4 (by decide) ?_
  refine gald (x := z 20) hx hb hK hP 1 rfl 20 (rfl) (by decide) (by decide) rfl dX5_aim_6 ?_
  refine lv_iconst (v := 1) hx hb dX5_aim_7 (by decide) ?_
  refine lv_icmp_ne (tgt := 68) hx hb dX5_aim_8 (by decide) (fun c_8 => ?_) (fun c_8 => ?_)
  · refine lv_aload_n hx hb dX5_aim_68 rfl (lv_at hl 0 rfl) ?_
    refine va_get (D := E.1) (ci := 5) (v := .ref (A 1)) (C := RX5) (T := TX5) (N := 15) hx hb hts hiX5 hown hK hP 0 rfl rfl 1 (by decide) hf7 (fun _ h9 => h9) rfl dX5_aim_69 ?_
    refine lv_bipush (v := 20) hx hb dX5_aim_72 (by decide) ?_
    refine gald (x := z 20) hx hb hK hP 1 rfl 20 (rfl) (by decide) (by decide) rfl dX5_aim_74 ?_
    refine lv_iconst (v := 2) hx hb dX5_aim_75 (by decide) ?_
    refine lv_icmp_ne (tgt := 92) hx hb dX5_aim_76 (by decide) (fun c_76 => ?_) (fun c_76 => ?_)
    · exact gretv hx hb hr hlocks hP hD hS (by simp only [aim, if_neg c_8, if_neg c_76]) dX5_aim_92
    · refine lv_aload_n hx hb dX5_aim_79 rfl (lv_at hl 0 rfl) ?_
      refine va_get (D := E.1) (ci := 5) (v := .ref (A 1)) (C := RX5) (T := TX5) (N := 15) hx hb hts hiX5 hown hK hP 0 rfl rfl 1 (by decide) hf7 (fun _ h9 => h9) rfl dX5_aim_80 ?_
      refine lv_bipush (v := 18) hx hb dX5_aim_83 (by decide) ?_
      refine lv_aload_n hx hb dX5_aim_85 rfl (lv_at hl 0 rfl) ?_
      refine va_get (D := E.1) (ci := 5) (v := .ref (A 1)) (C := RX5) (T := TX5) (N := 15) hx hb hts hiX5 hown hK hP 0 rfl rfl 1 (by decide) hf7 (fun _ h9 => h9) rfl dX5_aim_86 ?_
      refine lv_iconst (v := 1) hx hb dX5_aim_89 (by decide) ?_
      refine gald (x := z 1) hx hb hK hP 1 rfl 1 (rfl) (by decide) (by decide) rfl dX5_aim_90 ?_
      refine gast hx hb hK hP hD hS 1 rfl 18 (rfl) (by decide) (by decide) dX5_aim_91 (fun H locs hP hD hS => ?_)
      have hP : va_P E.1 vwCl (wM E A G (upd z 18 (z 1)) a t r h) H := hP
      have hD : va_D _ (wM E A G (upd z 18 (z 1)) a t r h) := hD
      exact gretv hx hb hr hlocks hP hD hS (by simp only [aim, if_neg c_8, if_pos c_76]) dX5_aim_92
  · refine lv_aload_n hx hb dX5_aim_11 rfl (lv_at hl 0 rfl) ?_
    refine va_get (D := E.1) (ci := 5) (v := .ref (A 1)) (C := RX5) (T := TX5) (N := 15) hx hb hts hiX5 hown hK hP 0 rfl rfl 1 (by decide) hf7 (fun _ h9 => h9) rfl dX5_aim_12 ?_
    refine lv_bipush (v := 18) hx hb dX5_aim_15 (by decide) ?_
    refine lv_dup2_11 hx hb dX5_aim_17 rfl rfl ?_
    refine gald (x := z 18) hx hb hK hP 1 rfl 18 (rfl) (by decide) (by decide) rfl dX5_aim_18 ?_
    refine lv_aload_n hx hb dX5_aim_19 rfl (lv_at hl 0 rfl) ?_
    refine va_get (D := E.1) (ci := 5) (v := .ref (A 1)) (C := RX5) (T := TX5) (N := 15) hx hb hts hiX5 hown hK hP 0 rfl rfl 1 (by decide) hf7 (fun _ h9 => h9) rfl dX5_aim_20 ?_
    refine lv_bipush (v := 8) hx hb dX5_aim_23 (by decide) ?_
    refine gald (x := z 8) hx hb hK hP 1 rfl 8 (rfl) (by decide) (by decide) rfl dX5_aim_25 ?_
    refine lv_iadd hx hb dX5_aim_26 ?_
    refine gast hx hb hK hP hD hS 1 rfl 18 (rfl) (by decide) (by decide) dX5_aim_27 (fun H locs hP hD hS => ?_)
    have hP : va_P E.1 vwCl (wM E A G (upd z 18 ((z 18) + (z 8))) a t r h) H := hP
    have hD : va_D _ (wM E A G (upd z 18 ((z 18) + (z 8))) a t r h) := hD
    refine lv_aload_n hx hb dX5_aim_28 rfl (lv_at hl 0 rfl) ?_
    refine va_get (D := E.1) (ci := 5) (v := .ref (A 1)) (C := RX5) (T := TX5) (N := 15) hx hb hts hiX5 hown hK hP 0 rfl rfl 1 (by decide) hf7 (fun _ h9 => h9) rfl dX5_aim_29 ?_
    refine lv_bipush (v := 18) hx hb dX5_aim_32 (by decide) ?_
    refine gald (x := (z 18) + (z 8)) hx hb hK hP 1 rfl 18 (rfl) (by decide) (by decide) rfl dX5_aim_34 ?_
    refine lv_aload_n hx hb dX5_aim_35 rfl (lv_at hl 0 rfl) ?_
    refine va_get (D := E.1) (ci := 5) (v := .ref (A 1)) (C := RX5) (T := TX5) (N := 15) hx hb hts hiX5 hown hK hP 0 rfl rfl 1 (by decide) hf7 (fun _ h9 => h9) rfl dX5_aim_36 ?_
    refine lv_iconst (v := 1) hx hb dX5_aim_39 (by decide) ?_
    refine gald (x := z 1) hx hb hK hP 1 rfl 1 (rfl) (by decide) (by decide) rfl dX5_aim_40 ?_
    refine lv_icmp_lt (tgt := 92) hx hb dX5_aim_41 (by decide) (fun c_41 => ?_) (fun c_41 => ?_)
    · exact gretv hx hb hr hlocks hP hD hS (by simp only [aim, if_pos c_8, if_pos c_41]) dX5_aim_92
    · refine lv_aload_n hx hb dX5_aim_44 rfl (lv_at hl 0 rfl) ?_
      refine va_get (D := E.1) (ci := 5) (v := .ref (A 1)) (C := RX5) (T := TX5) (N := 15) hx hb hts hiX5 hown hK hP 0 rfl rfl 1 (by decide) hf7 (fun _ h9 => h9) rfl dX5_aim_45 ?_
      refine lv_bipush (v := 18) hx hb dX5_aim_48 (by decide) ?_
      refine lv_aload_n hx hb dX5_aim_50 rfl (lv_at hl 0 rfl) ?_
      refine va_get (D := E.1) (ci := 5) (v := .ref (A 1)) (C := RX5) (T := TX5) (N := 15) hx hb hts hiX5 hown hK hP 0 rfl rfl 1 (by decide) hf7 (fun _ h9 => h9) rfl dX5_aim_51 ?_
      refine lv_iconst (v := 1) hx hb dX5_aim_54 (by decide) ?_
      refine gald (x := z 1) hx hb hK hP 1 rfl 1 (rfl) (by decide) (by decide) rfl dX5_aim_55 ?_
      refine gast hx hb hK hP hD hS 1 rfl 18 (rfl) (by decide) (by decide) dX5_aim_56 (fun H locs hP hD hS => ?_)
      have hP : va_P E.1 vwCl (wM E A G (upd (upd z 18 ((z 18) + (z 8))) 18 (z 1)) a t r h) H := hP
      have hD : va_D _ (wM E A G (upd (upd z 18 ((z 18) + (z 8))) 18 (z 1)) a t r h) := hD
      refine lv_aload_n hx hb dX5_aim_57 rfl (lv_at hl 0 rfl) ?_
      refine va_get (D := E.1) (ci := 5) (v := .ref (A 1)) (C := RX5) (T := TX5) (N := 15) hx hb hts hiX5 hown hK hP 0 rfl rfl 1 (by decide) hf7 (fun _ h9 => h9) rfl dX5_aim_58 ?_
      refine lv_bipush (v := 20) hx hb dX5_aim_61 (by decide) ?_
      refine lv_iconst (v := 2) hx hb dX5_aim_63 (by decide) ?_
      refine gast hx hb hK hP hD hS 1 rfl 20 (rfl) (by decide) (by decide) dX5_aim_64 (fun H locs hP hD hS => ?_)
      have hP : va_P E.1 vwCl (wM E A G (upd (upd (upd z 18 ((z 18) + (z 8))) 18 (z 1)) 20 2) a t r h) H := hP
      have hD : va_D _ (wM E A G (upd (upd (upd z 18 ((z 18) + (z 8))) 18 (z 1)) 20 2) a t r h) := hD
      refine lv_goto (tgt := 92) hx hb dX5_aim_65 (by decide) ?_
      exact gretv hx hb hr hlocks hP hD hS (by simp only [aim, if_pos c_8, if_neg c_41]) dX5_aim_92

set_option maxHeartbeats 4000000 in
set_option maxRecDepth 100000 in
theorem c_X5_regulate (l : Launch) (E : EE) (A : Nat → Nat) (G z a t r : Nat → Int32) (h : Int64) (h0 : ¬ z 0 = 0) : GM l yX5_regulate wsX5_regulate 1 22 E (wM E A G z a t r h) [.ref (A 0)] (wM E A G (regulate z) a t r h) (none) := by
  intro sz
  refine Met.ofW (cc := cX5_regulate) (maxL := 2) (ret := none) (by decide) rfl ?_
  intro p e s m args below meth c s₁ B hml hv
  obtain ⟨rfl, rfl, hP, hK, hD0, hN⟩ := hv
  have hx := B.exec
  have hb := B.bytes
  have hr := B.returns
  have hts := atoms_spec (ws := wsX5_regulate) B.pre
  have hown : s.vm.findClass RX5 = some m.cls := findClass_of_methodNamed B.named
  have hlocks := B.notSynchronized
  have hD := hD0.self (sz := s.heap.size)
  have hA : ∀ q : Nat, s.heap.size ≤ q → va_A (wM E A G z a t r h) s.heap.size q := fun q h => Or.inr h
  have hS : va_S (va_A (wM E A G z a t r h) s.heap.size) s.heap s.heap [] := va_S.rf
  have hl := lv_entry ([.ref (A 0)]) (n := 2) (Nat.le_of_ble_eq_true rfl)
  rw [lg_entry_eq]
  generalize (lg_sl ([.ref (A 0)]) ++ List.replicate (2 - (lg_sl ([.ref (A 0)])).length) Slot.unset).toArray = ls at hl ⊢
  have hl : lv_has ls 2 [(0, .ref (A 0))] := hl
  have hf7 := hts (.fieldLink RX5 7 "PhaseConverterModel" "z" "[I") (by decide +kernel)
  have hiX5 : ∀ w ∈ u_ws RX5 TX5 15, w ∈ wsX5_regulate := by decide +kernel
  refine lv_aload_n hx hb dX5_regulate_0 rfl (lv_at hl 0 rfl) ?_
  refine va_get (D := E.1) (ci := 5) (v := .ref (A 1)) (C := RX5) (T := TX5) (N := 15) hx hb hts hiX5 hown hK hP 0 rfl rfl 1 (by decide) hf7 (fun _ h9 => h9) rfl dX5_regulate_1 ?_
  refine lv_bipush (v := 18) hx hb dX5_regulate_4 (by decide) ?_
  refine gald (x := z 18) hx hb hK hP 1 rfl 18 (rfl) (by decide) (by decide) rfl dX5_regulate_6 ?_
  refine lv_aload_n hx hb dX5_regulate_7 rfl (lv_at hl 0 rfl) ?_
  refine va_get (D := E.1) (ci := 5) (v := .ref (A 1)) (C := RX5) (T := TX5) (N := 15) hx hb hts hiX5 hown hK hP 0 rfl rfl 1 (by decide) hf7 (fun _ h9 => h9) rfl dX5_regulate_8 ?_
  refine lv_bipush (v := 17) hx hb dX5_regulate_11 (by decide) ?_
  refine gald (x := z 17) hx hb hK hP 1 rfl 17 (rfl) (by decide) (by decide) rfl dX5_regulate_13 ?_
  refine lv_isub hx hb dX5_regulate_14 ?_
  refine lv_istore_n (lv' := [(1, .int ((z 18) - (z 17))), (0, .ref (A 0))]) hx hb dX5_regulate_15 rfl hl (by decide) rfl (fun ls hl => ?_)
  refine lv_aload_n hx hb dX5_regulate_16 rfl (lv_at hl 1 rfl) ?_
  refine va_get (D := E.1) (ci := 5) (v := .ref (A 1)) (C := RX5) (T := TX5) (N := 15) hx hb hts hiX5 hown hK hP 0 rfl rfl 1 (by decide) hf7 (fun _ h9 => h9) rfl dX5_regulate_17 ?_
  refine lv_bipush (v := 19) hx hb dX5_regulate_20 (by decide) ?_
  refine lv_aload_n hx hb dX5_regulate_22 rfl (lv_at hl 1 rfl) ?_
  refine va_get (D := E.1) (ci := 5) (v := .ref (A 1)) (C := RX5) (T := TX5) (N := 15) hx hb hts hiX5 hown hK hP 0 rfl rfl 1 (by decide) hf7 (fun _ h9 => h9) rfl dX5_regulate_23 ?_
  refine lv_bipush (v := 19) hx hb dX5_regulate_26 (by decide) ?_
  refine gald (x := z 19) hx hb hK hP 1 rfl 19 (rfl) (by decide) (by decide) rfl dX5_regulate_28 ?_
  refine lv_iload_n hx hb dX5_regulate_29 rfl (lv_at hl 0 rfl) ?_
  refine lv_iadd hx hb dX5_regulate_30 ?_
  refine lv_ldc (own := RX5) (v := (-100000)) hx hb hown (hts (.constant RX5 39 (-100000)) (by decide +kernel)) dX5_regulate_31 ?_
  refine lv_ldc (own := RX5) (v := 100000) hx hb hown (hts (.constant RX5 40 (100000)) (by decide +kernel)) dX5_regulate_33 ?_
  refine gsPi (As := [.int ((z 19) + ((z 18) - (z 17))), .int (-100000), .int 100000]) (rest := [.int 19, .ref (A 1)]) ⟨hx, hb, hml, hown, hts⟩ (c_X5_clamped l E ((z 19) + ((z 18) - (z 17))) (-100000) 100000) (va_cwS 3 hts gX5_regulate_X5_clamped rfl rfl rfl (by decide +kernel) ⟨Nat.le_of_ble_eq_true rfl, Nat.le_of_ble_eq_true rfl⟩) hP hK hD hN hS hA rfl hl.1 rfl (Nat.le_of_ble_eq_true rfl) dX5_regulate_35 ⟨Nat.le_refl _, Nat.le_refl _⟩ (fun H locs hP hD hS => ?_)
  refine gast hx hb hK hP hD hS 1 rfl 19 (rfl) (by decide) (by decide) dX5_regulate_38 (fun H locs hP hD hS => ?_)
  have hP : va_P E.1 vwCl (wM E A G (upd z 19 (clampI ((z 19) + ((z 18) - (z 17))) (-100000) 100000)) a t r h) H := hP
  have hD : va_D _ (wM E A G (upd z 19 (clampI ((z 19) + ((z 18) - (z 17))) (-100000) 100000)) a t r h) := hD
  refine lv_aload_n hx hb dX5_regulate_39 rfl (lv_at hl 1 rfl) ?_
  refine va_get (D := E.1) (ci := 5) (v := .ref (A 1)) (C := RX5) (T := TX5) (N := 15) hx hb hts hiX5 hown hK hP 0 rfl rfl 1 (by decide) hf7 (fun _ h9 => h9) rfl dX5_regulate_40 ?_
  refine lv_bipush (v := 21) hx hb dX5_regulate_43 (by decide) ?_
  refine lv_sipush (v := 1000) hx hb dX5_regulate_45 (by decide) ?_
  refine lv_aload_n hx hb dX5_regulate_48 rfl (lv_at hl 1 rfl) ?_
  refine va_get (D := E.1) (ci := 5) (v := .ref (A 1)) (C := RX5) (T := TX5) (N := 15) hx hb hts hiX5 hown hK hP 0 rfl rfl 1 (by decide) hf7 (fun _ h9 => h9) rfl dX5_regulate_49 ?_
  refine lv_bipush (v := 18) hx hb dX5_regulate_52 (by decide) ?_
  refine gald (x := z 18) hx hb hK hP 1 rfl 18 (rfl) (by decide) (by decide) rfl dX5_regulate_54 ?_
  refine lv_imul hx hb dX5_regulate_55 ?_
  refine lv_aload_n hx hb dX5_regulate_56 rfl (lv_at hl 1 rfl) ?_
  refine va_get (D := E.1) (ci := 5) (v := .ref (A 1)) (C := RX5) (T := TX5) (N := 15) hx hb hts hiX5 hown hK hP 0 rfl rfl 1 (by decide) hf7 (fun _ h9 => h9) rfl dX5_regulate_57 ?_
  refine lv_iconst (v := 0) hx hb dX5_regulate_60 (by decide) ?_
  refine gald (x := z 0) hx hb hK hP 1 rfl 0 (rfl) (by decide) (by decide) rfl dX5_regulate_61 ?_
  refine lv_idiv hx hb dX5_regulate_62 h0 ?_
  refine lv_iload_n hx hb dX5_regulate_63 rfl (lv_at hl 0 rfl) ?_
  refine lv_aload_n hx hb dX5_regulate_64 rfl (lv_at hl 1 rfl) ?_
  refine va_get (D := E.1) (ci := 5) (v := .ref (A 1)) (C := RX5) (T := TX5) (N := 15) hx hb hts hiX5 hown hK hP 0 rfl rfl 1 (by decide) hf7 (fun _ h9 => h9) rfl dX5_regulate_65 ?_
  refine lv_bipush (v := 6) hx hb dX5_regulate_68 (by decide) ?_
  refine gald (x := z 6) hx hb hK hP 1 rfl 6 (rfl) (by decide) (by decide) rfl dX5_regulate_70 ?_
  refine lv_imul hx hb dX5_regulate_71 ?_
  refine lv_bipush (v := 100) hx hb dX5_regulate_72 (by decide) ?_
  refine lv_idiv hx hb dX5_regulate_74 (by decide) ?_
  refine lv_iadd hx hb dX5_regulate_75 ?_
  refine lv_aload_n hx hb dX5_regulate_76 rfl (lv_at hl 1 rfl) ?_
  refine va_get (D := E.1) (ci := 5) (v := .ref (A 1)) (C := RX5) (T := TX5) (N := 15) hx hb hts hiX5 hown hK hP 0 rfl rfl 1 (by decide) hf7 (fun _ h9 => h9) rfl dX5_regulate_77 ?_
  refine lv_bipush (v := 19) hx hb dX5_regulate_80 (by decide) ?_
  refine gald (x := clampI ((z 19) + ((z 18) - (z 17))) (-100000) 100000) hx hb hK hP 1 rfl 19 (rfl) (by decide) (by decide) rfl dX5_regulate_82 ?_
  refine lv_aload_n hx hb dX5_regulate_83 rfl (lv_at hl 1 rfl) ?_
  refine va_get (D := E.1) (ci := 5) (v := .ref (A 1)) (C := RX5) (T := TX5) (N := 15) hx hb hts hiX5 hown hK hP 0 rfl rfl 1 (by decide) hf7 (fun _ h9 => h9) rfl dX5_regulate_84 ?_
  refine lv_bipush (v := 7) hx hb dX5_regulate_87 (by decide) ?_
  refine gald (x := z 7) hx hb hK hP 1 rfl 7 (rfl) (by decide) (by decide) rfl dX5_regulate_89 ?_
  refine lv_imul hx hb dX5_regulate_90 ?_
  refine lv_sipush (v := 10000) hx hb dX5_regulate_91 (by decide) ?_
  refine lv_idiv hx hb dX5_regulate_94 (by decide) ?_
  refine lv_iadd hx hb dX5_regulate_95 ?_
  refine lv_iconst (v := 0) hx hb dX5_regulate_96 (by decide) ?_
  refine lv_sipush (v := 900) hx hb dX5_regulate_97 (by decide) ?_
  refine gsPi (As := [.int ((((1000 * (z 18)) / (z 0)) + ((((z 18) - (z 17)) * (z 6)) / 100)) + (((clampI ((z 19) + ((z 18) - (z 17))) (-100000) 100000) * (z 7)) / 10000)), .int 0, .int 900]) (rest := [.int 21, .ref (A 1)]) ⟨hx, hb, hml, hown, hts⟩ (c_X5_clamped l E ((((1000 * (z 18)) / (z 0)) + ((((z 18) - (z 17)) * (z 6)) / 100)) + (((clampI ((z 19) + ((z 18) - (z 17))) (-100000) 100000) * (z 7)) / 10000)) 0 900) (va_cwS 3 hts gX5_regulate_X5_clamped rfl rfl rfl (by decide +kernel) ⟨Nat.le_of_ble_eq_true rfl, Nat.le_of_ble_eq_true rfl⟩) hP hK hD hN hS hA rfl hl.1 rfl (Nat.le_of_ble_eq_true rfl) dX5_regulate_100 ⟨Nat.le_refl _, Nat.le_refl _⟩ (fun H locs hP hD hS => ?_)
  refine gast hx hb hK hP hD hS 1 rfl 21 (rfl) (by decide) (by decide) dX5_regulate_103 (fun H locs hP hD hS => ?_)
  have hP : va_P E.1 vwCl (wM E A G (upd (upd z 19 (clampI ((z 19) + ((z 18) - (z 17))) (-100000) 100000)) 21 (clampI ((((1000 * (z 18)) / (z 0)) + ((((z 18) - (z 17)) * (z 6)) / 100)) + (((clampI ((z 19) + ((z 18) - (z 17))) (-100000) 100000) * (z 7)) / 10000)) 0 900)) a t r h) H := hP
  have hD : va_D _ (wM E A G (upd (upd z 19 (clampI ((z 19) + ((z 18) - (z 17))) (-100000) 100000)) 21 (clampI ((((1000 * (z 18)) / (z 0)) + ((((z 18) - (z 17)) * (z 6)) / 100)) + (((clampI ((z 19) + ((z 18) - (z 17))) (-100000) 100000) * (z 7)) / 10000)) 0 900)) a t r h) := hD
  exact gretv hx hb hr hlocks hP hD hS (rfl) dX5_regulate_104

set_option maxHeartbeats 4000000 in
set_option maxRecDepth 100000 in
theorem c_X5_stopTo (l : Launch) (E : EE) (A : Nat → Nat) (G z a t r : Nat → Int32) (h : Int64) (v0 : Int32) (hz : zOK z) : GM l yX5_stopTo wsX5_stopTo 1 21 E (wM E A G z a t r h) [.ref (A 0), .int v0] (wM E A G (stopTo v0 z) a t r h) (none) := by
  intro sz
  refine Met.ofW (cc := cX5_stopTo) (maxL := 3) (ret := none) (by decide) rfl ?_
  intro p e s m args below meth c s₁ B hml hv
  obtain ⟨rfl, rfl, hP, hK, hD0, hN⟩ := hv
  have hx := B.exec
  have hb := B.bytes
  have hr := B.returns
  have hts := atoms_spec (ws := wsX5_stopTo) B.pre
  have hown : s.vm.findClass RX5 = some m.cls := findClass_of_methodNamed B.named
  have hlocks := B.notSynchronized
  have hD := hD0.self (sz := s.heap.size)
  have hA : ∀ q : Nat, s.heap.size ≤ q → va_A (wM E A G z a t r h) s.heap.size q := fun q h => Or.inr h
  have hS : va_S (va_A (wM E A G z a t r h) s.heap.size) s.heap s.heap [] := va_S.rf
  have hl := lv_entry ([.ref (A 0), .int v0]) (n := 3) (Nat.le_of_ble_eq_true rfl)
  rw [lg_entry_eq]
  generalize (lg_sl ([.ref (A 0), .int v0]) ++ List.replicate (3 - (lg_sl ([.ref (A 0), .int v0])).length) Slot.unset).toArray = ls at hl ⊢
  have hl : lv_has ls 3 [(0, .ref (A 0)), (1, .int v0)] := hl
  have hf7 := hts (.fieldLink RX5 7 "PhaseConverterModel" "z" "[I") (by decide +kernel)
  have hiX5 : ∀ w ∈ u_ws RX5 TX5 15, w ∈ wsX5_stopTo := by decide +kernel
  have hn4 := hz.2.2.1
  refine lv_aload_n hx hb dX5_stopTo_0 rfl (lv_at hl 0 rfl) ?_
  refine va_get (D := E.1) (ci := 5) (v := .ref (A 1)) (C := RX5) (T := TX5) (N := 15) hx hb hts hiX5 hown hK hP 0 rfl rfl 1 (by decide) hf7 (fun _ h9 => h9) rfl dX5_stopTo_1 ?_
  refine lv_bipush (v := 20) hx hb dX5_stopTo_4 (by decide) ?_
  refine lv_iload_n hx hb dX5_stopTo_6 rfl (lv_at hl 1 rfl) ?_
  refine gast hx hb hK hP hD hS 1 rfl 20 (rfl) (by decide) (by decide) dX5_stopTo_7 (fun H locs hP hD hS => ?_)
  have hP : va_P E.1 vwCl (wM E A G (upd z 20 v0) a t r h) H := hP
  have hD : va_D _ (wM E A G (upd z 20 v0) a t r h) := hD
  refine lv_iconst (v := 0) hx hb dX5_stopTo_8 (by decide) ?_
  refine lv_istore_n (lv' := [(2, .int 0), (0, .ref (A 0)), (1, .int v0)]) hx hb dX5_stopTo_9 rfl hl (by decide) rfl (fun ls hl => ?_)
  have L_10 : ∀ (n i : Nat) (z1 : Nat → Int32) (H : Heap) (locs : List Loc) (ls : Array Slot), (i + n = nOf z) → (z1 15 = nI (nOf z)) → (stopL n i z1 = stopL (nOf z) 0 (upd z 20 v0)) → va_P E.1 vwCl (wM E A G z1 a t r h) H → va_D (va_A (wM E A G z a t r h) s.heap.size) (wM E A G z1 a t r h) → va_S (va_A (wM E A G z a t r h) s.heap.size) s.heap H locs → lv_has ls 3 [(2, .int (nI i)), (0, .ref (A 0)), (1, .int v0)] → W p l e (gR wsX5_stopTo 1 21) s m ([.ref (A 0), .int v0] : List Value).toArray below meth c H locs 0 0 (gMQ below E s (wM E A G z a t r h) (wM E A G (stopTo v0 z) a t r h) (none) [.ref (A 0), .int v0]) (F0 m 10 ls []) := by
    intro n
    induction n with
    | zero =>
      intro i z1 H locs ls hin h1 hfn hP hD hS hl
      have hfn : z1 = stopTo v0 z := hfn
      subst hfn
      refine lv_iload_n hx hb dX5_stopTo_10 rfl (lv_at hl 0 rfl) ?_
      refine lv_aload_n hx hb dX5_stopTo_11 rfl (lv_at hl 1 rfl) ?_
      refine va_get (D := E.1) (ci := 5) (v := .ref (A 1)) (C := RX5) (T := TX5) (N := 15) hx hb hts hiX5 hown hK hP 0 rfl rfl 1 (by decide) hf7 (fun _ h9 => h9) rfl dX5_stopTo_12 ?_
      refine lv_bipush (v := 15) hx hb dX5_stopTo_15 (by decide) ?_
      refine gald (x := (stopTo v0 z) 15) hx hb hK hP 1 rfl 15 (rfl) (by decide) (by decide) rfl dX5_stopTo_17 ?_
      refine lv_icmp_ge (tgt := 38) hx hb dX5_stopTo_18 (by decide) (fun c_18 => ?_) (fun c_18 => absurd (by rw [h1]; exact nI_le (by omega) (by omega)) c_18)
      exact gretv hx hb hr hlocks hP hD hS (rfl) dX5_stopTo_38
    | succ n ih =>
      intro i z1 H locs ls hin h1 hfn hP hD hS hl
      refine lv_iload_n hx hb dX5_stopTo_10 rfl (lv_at hl 0 rfl) ?_
      refine lv_aload_n hx hb dX5_stopTo_11 rfl (lv_at hl 1 rfl) ?_
      refine va_get (D := E.1) (ci := 5) (v := .ref (A 1)) (C := RX5) (T := TX5) (N := 15) hx hb hts hiX5 hown hK hP 0 rfl rfl 1 (by decide) hf7 (fun _ h9 => h9) rfl dX5_stopTo_12 ?_
      refine lv_bipush (v := 15) hx hb dX5_stopTo_15 (by decide) ?_
      refine gald (x := z1 15) hx hb hK hP 1 rfl 15 (rfl) (by decide) (by decide) rfl dX5_stopTo_17 ?_
      refine lv_icmp_ge (tgt := 38) hx hb dX5_stopTo_18 (by decide) (fun c_18 => absurd c_18 (by rw [h1]; exact nI_ge (by omega) (by omega))) (fun c_18 => ?_)
      refine lv_aload_n hx hb dX5_stopTo_21 rfl (lv_at hl 1 rfl) ?_
      refine va_get (D := E.1) (ci := 5) (v := .ref (A 1)) (C := RX5) (T := TX5) (N := 15) hx hb hts hiX5 hown hK hP 0 rfl rfl 1 (by decide) hf7 (fun _ h9 => h9) rfl dX5_stopTo_22 ?_
      refine lv_iload_n hx hb dX5_stopTo_25 rfl (lv_at hl 0 rfl) ?_
      refine lv_iconst (v := 1) hx hb dX5_stopTo_26 (by decide) ?_
      refine gsPi (As := [.int (nI i), .int 1]) (rest := [.ref (A 1)]) ⟨hx, hb, hml, hown, hts⟩ (c_X5_at l E i 1) (va_cwS 2 hts gX5_stopTo_X5_at rfl rfl rfl (by decide +kernel) ⟨Nat.le_of_ble_eq_true rfl, Nat.le_of_ble_eq_true rfl⟩) hP hK hD hN hS hA rfl hl.1 rfl (Nat.le_of_ble_eq_true rfl) dX5_stopTo_27 ⟨Nat.le_refl _, Nat.le_refl _⟩ (fun H locs hP hD hS => ?_)
      refine lv_iconst (v := 0) hx hb dX5_stopTo_30 (by decide) ?_
      refine gast hx hb hK hP hD hS 1 rfl (35 + 7 * i + 1) (rfl) (by omega) (by decide) dX5_stopTo_31 (fun H locs hP hD hS => ?_)
      have hP : va_P E.1 vwCl (wM E A G (upd z1 (35 + 7 * i + 1) 0) a t r h) H := hP
      have hD : va_D _ (wM E A G (upd z1 (35 + 7 * i + 1) 0) a t r h) := hD
      refine lv_iinc (v := nI (i + 1)) (lv' := [(2, .int (nI (i + 1))), (0, .ref (A 0)), (1, .int v0)]) hx hb dX5_stopTo_32 hl (k := 0) rfl (nI_1 _) (by decide) rfl (fun ls hl => ?_)
      refine lv_goto (tgt := 10) hx hb dX5_stopTo_35 (by decide) ?_
      exact ih (i + 1) (upd z1 (35 + 7 * i + 1) 0) H locs ls (by omega) ((pk_un (by omega)).trans h1) (hfn) hP hD hS (lv_sub hl [0, 1, 2] rfl)
  exact L_10 (nOf z) (0) (upd z 20 v0) H locs ls (by omega) (hz.1) rfl hP hD hS (lv_sub hl [0, 1, 2] rfl)

set_option maxHeartbeats 4000000 in
set_option maxRecDepth 100000 in
theorem c_X5_sum (l : Launch) (E : EE) (A : Nat → Nat) (G z a t r : Nat → Int32) (h : Int64) (k0 : Nat) (hk : k0 ≤ 4) : GM l yX5_sum wsX5_sum 1 21 E (wM E A G z a t r h) [.ref (A 0), .int (nI k0)] (wM E A G z a t r h) (some (.int (sumC k0 z))) := by
  intro sz
  refine Met.ofW (cc := cX5_sum) (maxL := 4) (ret := (some .int)) (by decide) rfl ?_
  intro p e s m args below meth c s₁ B hml hv
  obtain ⟨rfl, rfl, hP, hK, hD0, hN⟩ := hv
  have hx := B.exec
  have hb := B.bytes
  have hr := B.returns
  have hts := atoms_spec (ws := wsX5_sum) B.pre
  have hown : s.vm.findClass RX5 = some m.cls := findClass_of_methodNamed B.named
  have hlocks := B.notSynchronized
  have hD := hD0.self (sz := s.heap.size)
  have hA : ∀ q : Nat, s.heap.size ≤ q → va_A (wM E A G z a t r h) s.heap.size q := fun q h => Or.inr h
  have hS : va_S (va_A (wM E A G z a t r h) s.heap.size) s.heap s.heap [] := va_S.rf
  have hl := lv_entry ([.ref (A 0), .int (nI k0)]) (n := 4) (Nat.le_of_ble_eq_true rfl)
  rw [lg_entry_eq]
  generalize (lg_sl ([.ref (A 0), .int (nI k0)]) ++ List.replicate (4 - (lg_sl ([.ref (A 0), .int (nI k0)])).length) Slot.unset).toArray = ls at hl ⊢
  have hl : lv_has ls 4 [(0, .ref (A 0)), (1, .int (nI k0))] := hl
  have hf7 := hts (.fieldLink RX5 7 "PhaseConverterModel" "z" "[I") (by decide +kernel)
  have hiX5 : ∀ w ∈ u_ws RX5 TX5 15, w ∈ wsX5_sum := by decide +kernel
  refine lv_iconst (v := 0) hx hb dX5_sum_0 (by decide) ?_
  refine lv_istore_n (lv' := [(2, .int 0), (0, .ref (A 0)), (1, .int (nI k0))]) hx hb dX5_sum_1 rfl hl (by decide) rfl (fun ls hl => ?_)
  refine lv_iconst (v := 0) hx hb dX5_sum_2 (by decide) ?_
  refine lv_istore_n (lv' := [(3, .int 0), (2, .int 0), (0, .ref (A 0)), (1, .int (nI k0))]) hx hb dX5_sum_3 rfl hl (by decide) rfl (fun ls hl => ?_)
  have L_4 : ∀ (n i : Nat) (x1 : Int32) (H : Heap) (locs : List Loc) (ls : Array Slot), (i + n = k0) → (sumL z n i x1 = sumL z k0 0 0) → va_P E.1 vwCl (wM E A G z a t r h) H → va_D (va_A (wM E A G z a t r h) s.heap.size) (wM E A G z a t r h) → va_S (va_A (wM E A G z a t r h) s.heap.size) s.heap H locs → lv_has ls 4 [(3, .int (nI i)), (2, .int x1), (0, .ref (A 0)), (1, .int (nI k0))] → W p l e (gR wsX5_sum 1 21) s m ([.ref (A 0), .int (nI k0)] : List Value).toArray below meth c H locs 0 0 (gMQ below E s (wM E A G z a t r h) (wM E A G z a t r h) (some (.int (sumC k0 z))) [.ref (A 0), .int (nI k0)]) (F0 m 4 ls []) := by
    intro n
    induction n with
    | zero =>
      intro i x1 H locs ls hin  hfn hP hD hS hl
      refine lv_iload_n hx hb dX5_sum_4 rfl (lv_at hl 0 rfl) ?_
      refine lv_iload_n hx hb dX5_sum_5 rfl (lv_at hl 3 rfl) ?_
      refine lv_icmp_ge (tgt := 28) hx hb dX5_sum_6 (by decide) (fun c_6 => ?_) (fun c_6 => absurd (nI_le (by omega) (by omega)) c_6)
      refine lv_iload_n hx hb dX5_sum_28 rfl (lv_at hl 1 rfl) ?_
      exact greti hx hb hr hlocks hP hD hS (hfn) (rfl) dX5_sum_29
    | succ n ih =>
      intro i x1 H locs ls hin  hfn hP hD hS hl
      refine lv_iload_n hx hb dX5_sum_4 rfl (lv_at hl 0 rfl) ?_
      refine lv_iload_n hx hb dX5_sum_5 rfl (lv_at hl 3 rfl) ?_
      refine lv_icmp_ge (tgt := 28) hx hb dX5_sum_6 (by decide) (fun c_6 => absurd c_6 (nI_ge (by omega) (by omega))) (fun c_6 => ?_)
      refine lv_iload_n hx hb dX5_sum_9 rfl (lv_at hl 1 rfl) ?_
      refine lv_aload_n hx hb dX5_sum_10 rfl (lv_at hl 2 rfl) ?_
      refine va_get (D := E.1) (ci := 5) (v := .ref (A 1)) (C := RX5) (T := TX5) (N := 15) hx hb hts hiX5 hown hK hP 0 rfl rfl 1 (by decide) hf7 (fun _ h9 => h9) rfl dX5_sum_11 ?_
      refine lv_iload_n hx hb dX5_sum_14 rfl (lv_at hl 0 rfl) ?_
      refine lv_iconst (v := 0) hx hb dX5_sum_15 (by decide) ?_
      refine gsPi (As := [.int (nI i), .int 0]) (rest := [.ref (A 1), .int x1]) ⟨hx, hb, hml, hown, hts⟩ (c_X5_at l E i 0) (va_cwS 2 hts gX5_sum_X5_at rfl rfl rfl (by decide +kernel) ⟨Nat.le_of_ble_eq_true rfl, Nat.le_of_ble_eq_true rfl⟩) hP hK hD hN hS hA rfl hl.1 rfl (Nat.le_of_ble_eq_true rfl) dX5_sum_16 ⟨Nat.le_refl _, Nat.le_refl _⟩ (fun H locs hP hD hS => ?_)
      refine gald (x := z (35 + 7 * i + 0)) hx hb hK hP 1 rfl (35 + 7 * i + 0) (rfl) (by omega) (by decide) rfl dX5_sum_19 ?_
      refine lv_iadd hx hb dX5_sum_20 ?_
      refine lv_istore_n (lv' := [(2, .int (x1 + (z (35 + 7 * i + 0)))), (3, .int (nI i)), (0, .ref (A 0)), (1, .int (nI k0))]) hx hb dX5_sum_21 rfl hl (by decide) rfl (fun ls hl => ?_)
      refine lv_iinc (v := nI (i + 1)) (lv' := [(3, .int (nI (i + 1))), (2, .int (x1 + (z (35 + 7 * i + 0)))), (0, .ref (A 0)), (1, .int (nI k0))]) hx hb dX5_sum_22 hl (k := 1) rfl (nI_1 _) (by decide) rfl (fun ls hl => ?_)
      refine lv_goto (tgt := 4) hx hb dX5_sum_25 (by decide) ?_
      exact ih (i + 1) (x1 + (z (35 + 7 * i + 0))) H locs ls (by omega)  (hfn) hP hD hS (lv_sub hl [0, 1, 2, 3] rfl)
  exact L_4 (k0) (0) 0 H locs ls (by omega)  rfl hP hD hS (lv_sub hl [0, 1, 2, 3] rfl)

set_option maxHeartbeats 4000000 in
set_option maxRecDepth 100000 in
theorem c_X5_choosePhases (l : Launch) (E : EE) (A : Nat → Nat) (G z a t r : Nat → Int32) (h : Int64) (hz : zOK z) : GM l yX5_choosePhases wsX5_choosePhases 1 21 E (wM E A G z a t r h) [.ref (A 0)] (wM E A G (choose z) a t r h) (none) := by
  intro sz
  refine Met.ofW (cc := cX5_choosePhases) (maxL := 3) (ret := none) (by decide) rfl ?_
  intro p e s m args below meth c s₁ B hml hv
  obtain ⟨rfl, rfl, hP, hK, hD0, hN⟩ := hv
  have hx := B.exec
  have hb := B.bytes
  have hr := B.returns
  have hts := atoms_spec (ws := wsX5_choosePhases) B.pre
  have hown : s.vm.findClass RX5 = some m.cls := findClass_of_methodNamed B.named
  have hlocks := B.notSynchronized
  have hD := hD0.self (sz := s.heap.size)
  have hA : ∀ q : Nat, s.heap.size ≤ q → va_A (wM E A G z a t r h) s.heap.size q := fun q h => Or.inr h
  have hS : va_S (va_A (wM E A G z a t r h) s.heap.size) s.heap s.heap [] := va_S.rf
  have hl := lv_entry ([.ref (A 0)]) (n := 3) (Nat.le_of_ble_eq_true rfl)
  rw [lg_entry_eq]
  generalize (lg_sl ([.ref (A 0)]) ++ List.replicate (3 - (lg_sl ([.ref (A 0)])).length) Slot.unset).toArray = ls at hl ⊢
  have hl : lv_has ls 3 [(0, .ref (A 0))] := hl
  have hf7 := hts (.fieldLink RX5 7 "PhaseConverterModel" "z" "[I") (by decide +kernel)
  have hiX5 : ∀ w ∈ u_ws RX5 TX5 15, w ∈ wsX5_choosePhases := by decide +kernel
  have hn4 := hz.2.2.1
  have hm1 := hz.2.2.2.2.1
  have hmn := hz.2.2.2.2.2.1
  refine lv_aload_n hx hb dX5_choosePhases_0 rfl (lv_at hl 0 rfl) ?_
  refine va_get (D := E.1) (ci := 5) (v := .ref (A 1)) (C := RX5) (T := TX5) (N := 15) hx hb hts hiX5 hown hK hP 0 rfl rfl 1 (by decide) hf7 (fun _ h9 => h9) rfl dX5_choosePhases_1 ?_
  refine lv_bipush (v := 16) hx hb dX5_choosePhases_4 (by decide) ?_
  refine gald (x := z 16) hx hb hK hP 1 rfl 16 (rfl) (by decide) (by decide) rfl dX5_choosePhases_6 ?_
  refine lv_istore_n (lv' := [(1, .int (z 16)), (0, .ref (A 0))]) hx hb dX5_choosePhases_7 rfl hl (by decide) rfl (fun ls hl => ?_)
  refine lv_aload_n hx hb dX5_choosePhases_8 rfl (lv_at hl 1 rfl) ?_
  refine va_get (D := E.1) (ci := 5) (v := .ref (A 1)) (C := RX5) (T := TX5) (N := 15) hx hb hts hiX5 hown hK hP 0 rfl rfl 1 (by decide) hf7 (fun _ h9 => h9) rfl dX5_choosePhases_9 ?_
  refine lv_bipush (v := 22) hx hb dX5_choosePhases_12 (by decide) ?_
  refine gald (x := z 22) hx hb hK hP 1 rfl 22 (rfl) (by decide) (by decide) rfl dX5_choosePhases_14 ?_
  refine lv_istore_n (lv' := [(2, .int (z 22)), (1, .int (z 16)), (0, .ref (A 0))]) hx hb dX5_choosePhases_15 rfl hl (by decide) rfl (fun ls hl => ?_)
  refine lv_aload_n hx hb dX5_choosePhases_16 rfl (lv_at hl 2 rfl) ?_
  refine va_get (D := E.1) (ci := 5) (v := .ref (A 1)) (C := RX5) (T := TX5) (N := 15) hx hb hts hiX5 hown hK hP 0 rfl rfl 1 (by decide) hf7 (fun _ h9 => h9) rfl dX5_choosePhases_17 ?_
  refine lv_bipush (v := 29) hx hb dX5_choosePhases_20 (by decide) ?_
  refine lv_iload_n hx hb dX5_choosePhases_22 rfl (lv_at hl 0 rfl) ?_
  refine lv_aload_n hx hb dX5_choosePhases_23 rfl (lv_at hl 2 rfl) ?_
  refine va_get (D := E.1) (ci := 5) (v := .ref (A 1)) (C := RX5) (T := TX5) (N := 15) hx hb hts hiX5 hown hK hP 0 rfl rfl 1 (by decide) hf7 (fun _ h9 => h9) rfl dX5_choosePhases_24 ?_
  refine lv_bipush (v := 10) hx hb dX5_choosePhases_27 (by decide) ?_
  refine gald (x := z 10) hx hb hK hP 1 rfl 10 (rfl) (by decide) (by decide) rfl dX5_choosePhases_29 ?_
  refine lv_iload_n hx hb dX5_choosePhases_30 rfl (lv_at hl 1 rfl) ?_
  refine lv_imul hx hb dX5_choosePhases_31 ?_
  obtain ⟨x_1, ex_1⟩ : ∃ y : Int32, y = (if (z 22) ≤ ((z 10) * (z 16)) then 0 else (if (z 15) ≤ (z 16) then 0 else (z 29) + 1)) := ⟨_, rfl⟩
  have fx1 : x_1 = adI z := ex_1
  have J_32 : ∀ (H : Heap) (locs : List Loc) (ls : Array Slot), va_P E.1 vwCl (wM E A G z a t r h) H → va_D (va_A (wM E A G z a t r h) s.heap.size) (wM E A G z a t r h) → va_S (va_A (wM E A G z a t r h) s.heap.size) s.heap H locs → lv_has ls 3 [(2, .int (z 22)), (1, .int (z 16)), (0, .ref (A 0))] → W p l e (gR wsX5_choosePhases 1 21) s m ([.ref (A 0)] : List Value).toArray below meth c H locs 0 0 (gMQ below E s (wM E A G z a t r h) (wM E A G (choose z) a t r h) (none) [.ref (A 0)]) (F0 m 59 ls [.int x_1, .int 29, .ref (A 1)]) := by
    intro H locs ls hP hD hS hl
    refine gast hx hb hK hP hD hS 1 rfl 29 (rfl) (by decide) (by decide) dX5_choosePhases_59 (fun H locs hP hD hS => ?_)
    have hP : va_P E.1 vwCl (wM E A G (upd z 29 x_1) a t r h) H := hP
    have hD : va_D _ (wM E A G (upd z 29 x_1) a t r h) := hD
    refine lv_aload_n hx hb dX5_choosePhases_60 rfl (lv_at hl 2 rfl) ?_
    refine va_get (D := E.1) (ci := 5) (v := .ref (A 1)) (C := RX5) (T := TX5) (N := 15) hx hb hts hiX5 hown hK hP 0 rfl rfl 1 (by decide) hf7 (fun _ h9 => h9) rfl dX5_choosePhases_61 ?_
    refine lv_bipush (v := 29) hx hb dX5_choosePhases_64 (by decide) ?_
    refine gald (x := x_1) hx hb hK hP 1 rfl 29 (rfl) (by decide) (by decide) rfl dX5_choosePhases_66 ?_
    refine lv_iconst (v := 3) hx hb dX5_choosePhases_67 (by decide) ?_
    refine lv_icmp_ne (tgt := 79) hx hb dX5_choosePhases_68 (by decide) (fun c_68 => ?_) (fun c_68 => ?_)
    · refine lv_aload_n hx hb dX5_choosePhases_79 rfl (lv_at hl 2 rfl) ?_
      refine va_get (D := E.1) (ci := 5) (v := .ref (A 1)) (C := RX5) (T := TX5) (N := 15) hx hb hts hiX5 hown hK hP 0 rfl rfl 1 (by decide) hf7 (fun _ h9 => h9) rfl dX5_choosePhases_80 ?_
      refine lv_bipush (v := 30) hx hb dX5_choosePhases_83 (by decide) ?_
      refine lv_iload_n hx hb dX5_choosePhases_85 rfl (lv_at hl 1 rfl) ?_
      refine lv_iconst (v := 1) hx hb dX5_choosePhases_86 (by decide) ?_
      obtain ⟨x_2, ex_2⟩ : ∃ y : Int32, y = (if (z 16) ≤ 1 then 0 else (if ((z 11) * ((z 16) - 1)) ≤ (z 22) then 0 else (z 30) + 1)) := ⟨_, rfl⟩
      have fx2 : x_2 = shI z := ex_2
      have J_87 : ∀ (H : Heap) (locs : List Loc) (ls : Array Slot), va_P E.1 vwCl (wM E A G (upd z 29 x_1) a t r h) H → va_D (va_A (wM E A G z a t r h) s.heap.size) (wM E A G (upd z 29 x_1) a t r h) → va_S (va_A (wM E A G z a t r h) s.heap.size) s.heap H locs → lv_has ls 3 [(2, .int (z 22)), (1, .int (z 16)), (0, .ref (A 0))] → W p l e (gR wsX5_choosePhases 1 21) s m ([.ref (A 0)] : List Value).toArray below meth c H locs 0 0 (gMQ below E s (wM E A G z a t r h) (wM E A G (choose z) a t r h) (none) [.ref (A 0)]) (F0 m 118 ls [.int x_2, .int 30, .ref (A 1)]) := by
        intro H locs ls hP hD hS hl
        refine gast hx hb hK hP hD hS 1 rfl 30 (rfl) (by decide) (by decide) dX5_choosePhases_118 (fun H locs hP hD hS => ?_)
        have hP : va_P E.1 vwCl (wM E A G (upd (upd z 29 x_1) 30 x_2) a t r h) H := hP
        have hD : va_D _ (wM E A G (upd (upd z 29 x_1) 30 x_2) a t r h) := hD
        refine lv_aload_n hx hb dX5_choosePhases_119 rfl (lv_at hl 2 rfl) ?_
        refine va_get (D := E.1) (ci := 5) (v := .ref (A 1)) (C := RX5) (T := TX5) (N := 15) hx hb hts hiX5 hown hK hP 0 rfl rfl 1 (by decide) hf7 (fun _ h9 => h9) rfl dX5_choosePhases_120 ?_
        refine lv_bipush (v := 30) hx hb dX5_choosePhases_123 (by decide) ?_
        refine gald (x := x_2) hx hb hK hP 1 rfl 30 (rfl) (by decide) (by decide) rfl dX5_choosePhases_125 ?_
        refine lv_iconst (v := 5) hx hb dX5_choosePhases_126 (by decide) ?_
        refine lv_icmp_ne (tgt := 150) hx hb dX5_choosePhases_127 (by decide) (fun c_127 => ?_) (fun c_127 => ?_)
        · exact gretv hx hb hr hlocks hP hD hS (by simp only [choose, ← fx1, ← fx2, if_neg c_68, if_neg c_127]) dX5_choosePhases_150
        · refine lv_aload_n hx hb dX5_choosePhases_130 rfl (lv_at hl 2 rfl) ?_
          refine lv_iload_n hx hb dX5_choosePhases_131 rfl (lv_at hl 1 rfl) ?_
          refine lv_iconst (v := 1) hx hb dX5_choosePhases_132 (by decide) ?_
          refine lv_isub hx hb dX5_choosePhases_133 ?_
          refine gv0v (As := [.int ((z 16) - 1)]) (rest := []) ⟨hx, hb, hml, hown, hts⟩ (c_X5_changePhases l E A G (upd (upd z 29 x_1) 30 x_2) a t r h ((z 16) - 1)) (cwV 1 hts gX5_choosePhases_X5_changePhases rfl rfl rfl (by decide +kernel) ⟨Nat.le_of_ble_eq_true rfl, Nat.le_of_ble_eq_true rfl⟩) (va_recv hK hP (ci := 5) (q0 := 0) rfl rfl) hP hK hD hN hS hA rfl hl.1 rfl (Nat.le_of_ble_eq_true rfl) dX5_choosePhases_134 ⟨Nat.le_refl _, Nat.le_refl _⟩ (fun H locs hP hD hS => ?_)
          have hP : va_P E.1 vwCl (wM E A G (changePh ((z 16) - 1) (upd (upd z 29 x_1) 30 x_2)) a t r h) H := hP
          have hD : va_D _ (wM E A G (changePh ((z 16) - 1) (upd (upd z 29 x_1) 30 x_2)) a t r h) := hD
          refine lv_aload_n hx hb dX5_choosePhases_137 rfl (lv_at hl 2 rfl) ?_
          refine va_get (D := E.1) (ci := 5) (v := .ref (A 1)) (C := RX5) (T := TX5) (N := 15) hx hb hts hiX5 hown hK hP 0 rfl rfl 1 (by decide) hf7 (fun _ h9 => h9) rfl dX5_choosePhases_138 ?_
          refine lv_iload_n hx hb dX5_choosePhases_141 rfl (lv_at hl 1 rfl) ?_
          refine lv_iconst (v := 1) hx hb dX5_choosePhases_142 (by decide) ?_
          refine lv_isub hx hb dX5_choosePhases_143 ?_
          refine W.eq (g2 := F0 m 144 ls [.int (nI (mOf z - 1)), .ref (A 1)]) (by rw [zOK_m1 hz]) ?_
          refine lv_iconst (v := 1) hx hb dX5_choosePhases_144 (by decide) ?_
          refine gsPi (As := [.int (nI (mOf z - 1)), .int 1]) (rest := [.ref (A 1)]) ⟨hx, hb, hml, hown, hts⟩ (c_X5_at l E (mOf z - 1) 1) (va_cwS 2 hts gX5_choosePhases_X5_at rfl rfl rfl (by decide +kernel) ⟨Nat.le_of_ble_eq_true rfl, Nat.le_of_ble_eq_true rfl⟩) hP hK hD hN hS hA rfl hl.1 rfl (Nat.le_of_ble_eq_true rfl) dX5_choosePhases_145 ⟨Nat.le_refl _, Nat.le_refl _⟩ (fun H locs hP hD hS => ?_)
          refine lv_iconst (v := 0) hx hb dX5_choosePhases_148 (by decide) ?_
          refine gast hx hb hK hP hD hS 1 rfl (35 + 7 * (mOf z - 1) + 1) (rfl) (by omega) (by decide) dX5_choosePhases_149 (fun H locs hP hD hS => ?_)
          have hP : va_P E.1 vwCl (wM E A G (upd (changePh ((z 16) - 1) (upd (upd z 29 x_1) 30 x_2)) (35 + 7 * (mOf z - 1) + 1) 0) a t r h) H := hP
          have hD : va_D _ (wM E A G (upd (changePh ((z 16) - 1) (upd (upd z 29 x_1) 30 x_2)) (35 + 7 * (mOf z - 1) + 1) 0) a t r h) := hD
          exact gretv hx hb hr hlocks hP hD hS (by simp only [choose, ← fx1, ← fx2, if_neg c_68, if_pos c_127]) dX5_choosePhases_150
      refine lv_icmp_le (tgt := 117) hx hb dX5_choosePhases_87 (by decide) (fun c_87 => ?_) (fun c_87 => ?_)
      · refine lv_iconst (v := 0) hx hb dX5_choosePhases_117 (by decide) ?_
        refine W.eq (g2 := F0 m 118 ls [.int x_2, .int 30, .ref (A 1)]) (by rw [ex_2]; simp only [if_pos c_87]) ?_
        exact J_87 H locs ls (hP) (hD) hS (lv_sub hl [0, 1, 2] rfl)
      · refine lv_iload_n hx hb dX5_choosePhases_90 rfl (lv_at hl 0 rfl) ?_
        refine lv_aload_n hx hb dX5_choosePhases_91 rfl (lv_at hl 2 rfl) ?_
        refine va_get (D := E.1) (ci := 5) (v := .ref (A 1)) (C := RX5) (T := TX5) (N := 15) hx hb hts hiX5 hown hK hP 0 rfl rfl 1 (by decide) hf7 (fun _ h9 => h9) rfl dX5_choosePhases_92 ?_
        refine lv_bipush (v := 11) hx hb dX5_choosePhases_95 (by decide) ?_
        refine gald (x := z 11) hx hb hK hP 1 rfl 11 (rfl) (by decide) (by decide) rfl dX5_choosePhases_97 ?_
        refine lv_iload_n hx hb dX5_choosePhases_98 rfl (lv_at hl 1 rfl) ?_
        refine lv_iconst (v := 1) hx hb dX5_choosePhases_99 (by decide) ?_
        refine lv_isub hx hb dX5_choosePhases_100 ?_
        refine lv_imul hx hb dX5_choosePhases_101 ?_
        refine lv_icmp_ge (tgt := 117) hx hb dX5_choosePhases_102 (by decide) (fun c_102 => ?_) (fun c_102 => ?_)
        · refine lv_iconst (v := 0) hx hb dX5_choosePhases_117 (by decide) ?_
          refine W.eq (g2 := F0 m 118 ls [.int x_2, .int 30, .ref (A 1)]) (by rw [ex_2]; simp only [if_neg c_87, if_pos c_102]) ?_
          exact J_87 H locs ls (hP) (hD) hS (lv_sub hl [0, 1, 2] rfl)
        · refine lv_aload_n hx hb dX5_choosePhases_105 rfl (lv_at hl 2 rfl) ?_
          refine va_get (D := E.1) (ci := 5) (v := .ref (A 1)) (C := RX5) (T := TX5) (N := 15) hx hb hts hiX5 hown hK hP 0 rfl rfl 1 (by decide) hf7 (fun _ h9 => h9) rfl dX5_choosePhases_106 ?_
          refine lv_bipush (v := 30) hx hb dX5_choosePhases_109 (by decide) ?_
          refine gald (x := z 30) hx hb hK hP 1 rfl 30 (rfl) (by decide) (by decide) rfl dX5_choosePhases_111 ?_
          refine lv_iconst (v := 1) hx hb dX5_choosePhases_112 (by decide) ?_
          refine lv_iadd hx hb dX5_choosePhases_113 ?_
          refine lv_goto (tgt := 118) hx hb dX5_choosePhases_114 (by decide) ?_
          refine W.eq (g2 := F0 m 118 ls [.int x_2, .int 30, .ref (A 1)]) (by rw [ex_2]; simp only [if_neg c_87, if_neg c_102]) ?_
          exact J_87 H locs ls (hP) (hD) hS (lv_sub hl [0, 1, 2] rfl)
    · refine lv_aload_n hx hb dX5_choosePhases_71 rfl (lv_at hl 2 rfl) ?_
      refine lv_iload_n hx hb dX5_choosePhases_72 rfl (lv_at hl 1 rfl) ?_
      refine lv_iconst (v := 1) hx hb dX5_choosePhases_73 (by decide) ?_
      refine lv_iadd hx hb dX5_choosePhases_74 ?_
      refine gv0v (As := [.int ((z 16) + 1)]) (rest := []) ⟨hx, hb, hml, hown, hts⟩ (c_X5_changePhases l E A G (upd z 29 x_1) a t r h ((z 16) + 1)) (cwV 1 hts gX5_choosePhases_X5_changePhases rfl rfl rfl (by decide +kernel) ⟨Nat.le_of_ble_eq_true rfl, Nat.le_of_ble_eq_true rfl⟩) (va_recv hK hP (ci := 5) (q0 := 0) rfl rfl) hP hK hD hN hS hA rfl hl.1 rfl (Nat.le_of_ble_eq_true rfl) dX5_choosePhases_75 ⟨Nat.le_refl _, Nat.le_refl _⟩ (fun H locs hP hD hS => ?_)
      have hP : va_P E.1 vwCl (wM E A G (changePh ((z 16) + 1) (upd z 29 x_1)) a t r h) H := hP
      have hD : va_D _ (wM E A G (changePh ((z 16) + 1) (upd z 29 x_1)) a t r h) := hD
      exact gretv hx hb hr hlocks hP hD hS (by simp only [choose, ← fx1, if_pos c_68]) dX5_choosePhases_78
  refine lv_icmp_le (tgt := 58) hx hb dX5_choosePhases_32 (by decide) (fun c_32 => ?_) (fun c_32 => ?_)
  · refine lv_iconst (v := 0) hx hb dX5_choosePhases_58 (by decide) ?_
    refine W.eq (g2 := F0 m 59 ls [.int x_1, .int 29, .ref (A 1)]) (by rw [ex_1]; simp only [if_pos c_32]) ?_
    exact J_32 H locs ls (hP) (hD) hS (lv_sub hl [0, 1, 2] rfl)
  · refine lv_iload_n hx hb dX5_choosePhases_35 rfl (lv_at hl 1 rfl) ?_
    refine lv_aload_n hx hb dX5_choosePhases_36 rfl (lv_at hl 2 rfl) ?_
    refine va_get (D := E.1) (ci := 5) (v := .ref (A 1)) (C := RX5) (T := TX5) (N := 15) hx hb hts hiX5 hown hK hP 0 rfl rfl 1 (by decide) hf7 (fun _ h9 => h9) rfl dX5_choosePhases_37 ?_
    refine lv_bipush (v := 15) hx hb dX5_choosePhases_40 (by decide) ?_
    refine gald (x := z 15) hx hb hK hP 1 rfl 15 (rfl) (by decide) (by decide) rfl dX5_choosePhases_42 ?_
    refine lv_icmp_ge (tgt := 58) hx hb dX5_choosePhases_43 (by decide) (fun c_43 => ?_) (fun c_43 => ?_)
    · refine lv_iconst (v := 0) hx hb dX5_choosePhases_58 (by decide) ?_
      refine W.eq (g2 := F0 m 59 ls [.int x_1, .int 29, .ref (A 1)]) (by rw [ex_1]; simp only [if_neg c_32, if_pos c_43]) ?_
      exact J_32 H locs ls (hP) (hD) hS (lv_sub hl [0, 1, 2] rfl)
    · refine lv_aload_n hx hb dX5_choosePhases_46 rfl (lv_at hl 2 rfl) ?_
      refine va_get (D := E.1) (ci := 5) (v := .ref (A 1)) (C := RX5) (T := TX5) (N := 15) hx hb hts hiX5 hown hK hP 0 rfl rfl 1 (by decide) hf7 (fun _ h9 => h9) rfl dX5_choosePhases_47 ?_
      refine lv_bipush (v := 29) hx hb dX5_choosePhases_50 (by decide) ?_
      refine gald (x := z 29) hx hb hK hP 1 rfl 29 (rfl) (by decide) (by decide) rfl dX5_choosePhases_52 ?_
      refine lv_iconst (v := 1) hx hb dX5_choosePhases_53 (by decide) ?_
      refine lv_iadd hx hb dX5_choosePhases_54 ?_
      refine lv_goto (tgt := 59) hx hb dX5_choosePhases_55 (by decide) ?_
      refine W.eq (g2 := F0 m 59 ls [.int x_1, .int 29, .ref (A 1)]) (by rw [ex_1]; simp only [if_neg c_32, if_neg c_43]) ?_
      exact J_32 H locs ls (hP) (hD) hS (lv_sub hl [0, 1, 2] rfl)

set_option maxHeartbeats 4000000 in
set_option maxRecDepth 100000 in
theorem c_X5_beginPulse (l : Launch) (E : EE) (A : Nat → Nat) (G z a t r : Nat → Int32) (h : Int64) (k0 : Nat) (v1 : Int32) (hz : zOK z) (hk : k0 < 4) : GM l yX5_beginPulse wsX5_beginPulse 2 44 E (wM E A G z a t r h) [.ref (A 0), .int (nI k0), .int v1] (wM E A G (beginP k0 v1 z) a t r h) (none) := by
  intro sz
  refine Met.ofW (cc := cX5_beginPulse) (maxL := 6) (ret := none) (by decide) rfl ?_
  intro p e s m args below meth c s₁ B hml hv
  obtain ⟨rfl, rfl, hP, hK, hD0, hN⟩ := hv
  have hx := B.exec
  have hb := B.bytes
  have hr := B.returns
  have hts := atoms_spec (ws := wsX5_beginPulse) B.pre
  have hown : s.vm.findClass RX5 = some m.cls := findClass_of_methodNamed B.named
  have hlocks := B.notSynchronized
  have hD := hD0.self (sz := s.heap.size)
  have hA : ∀ q : Nat, s.heap.size ≤ q → va_A (wM E A G z a t r h) s.heap.size q := fun q h => Or.inr h
  have hS : va_S (va_A (wM E A G z a t r h) s.heap.size) s.heap s.heap [] := va_S.rf
  have hl := lv_entry ([.ref (A 0), .int (nI k0), .int v1]) (n := 6) (Nat.le_of_ble_eq_true rfl)
  rw [lg_entry_eq]
  generalize (lg_sl ([.ref (A 0), .int (nI k0), .int v1]) ++ List.replicate (6 - (lg_sl ([.ref (A 0), .int (nI k0), .int v1])).length) Slot.unset).toArray = ls at hl ⊢
  have hl : lv_has ls 6 [(0, .ref (A 0)), (1, .int (nI k0)), (2, .int v1)] := hl
  have hf7 := hts (.fieldLink RX5 7 "PhaseConverterModel" "z" "[I") (by decide +kernel)
  have hiX5 : ∀ w ∈ u_ws RX5 TX5 15, w ∈ wsX5_beginPulse := by decide +kernel
  refine lv_aload_n hx hb dX5_beginPulse_0 rfl (lv_at hl 0 rfl) ?_
  refine va_get (D := E.1) (ci := 5) (v := .ref (A 1)) (C := RX5) (T := TX5) (N := 15) hx hb hts hiX5 hown hK hP 0 rfl rfl 1 (by decide) hf7 (fun _ h9 => h9) rfl dX5_beginPulse_1 ?_
  refine lv_bipush (v := 17) hx hb dX5_beginPulse_4 (by decide) ?_
  refine gald (x := z 17) hx hb hK hP 1 rfl 17 (rfl) (by decide) (by decide) rfl dX5_beginPulse_6 ?_
  refine lv_aload_n hx hb dX5_beginPulse_7 rfl (lv_at hl 0 rfl) ?_
  refine va_get (D := E.1) (ci := 5) (v := .ref (A 1)) (C := RX5) (T := TX5) (N := 15) hx hb hts hiX5 hown hK hP 0 rfl rfl 1 (by decide) hf7 (fun _ h9 => h9) rfl dX5_beginPulse_8 ?_
  refine lv_bipush (v := 18) hx hb dX5_beginPulse_11 (by decide) ?_
  refine gald (x := z 18) hx hb hK hP 1 rfl 18 (rfl) (by decide) (by decide) rfl dX5_beginPulse_13 ?_
  refine lv_icmp_lt (tgt := 76) hx hb dX5_beginPulse_14 (by decide) (fun c_14 => ?_) (fun c_14 => ?_)
  · refine lv_aload_n hx hb dX5_beginPulse_76 rfl (lv_at hl 0 rfl) ?_
    refine va_get (D := E.1) (ci := 5) (v := .ref (A 1)) (C := RX5) (T := TX5) (N := 15) hx hb hts hiX5 hown hK hP 0 rfl rfl 1 (by decide) hf7 (fun _ h9 => h9) rfl dX5_beginPulse_77 ?_
    refine lv_iload_n hx hb dX5_beginPulse_80 rfl (lv_at hl 1 rfl) ?_
    refine lv_iconst (v := 0) hx hb dX5_beginPulse_81 (by decide) ?_
    refine gsPi (As := [.int (nI k0), .int 0]) (rest := [.ref (A 1)]) ⟨hx, hb, hml, hown, hts⟩ (c_X5_at l E k0 0) (va_cwS 2 hts gX5_beginPulse_X5_at rfl rfl rfl (by decide +kernel) ⟨Nat.le_of_ble_eq_true rfl, Nat.le_of_ble_eq_true rfl⟩) hP hK hD hN hS hA rfl hl.1 rfl (Nat.le_of_ble_eq_true rfl) dX5_beginPulse_82 ⟨Nat.le_refl _, Nat.le_refl _⟩ (fun H locs hP hD hS => ?_)
    refine gald (x := z (35 + 7 * k0 + 0)) hx hb hK hP 1 rfl (35 + 7 * k0 + 0) (rfl) (by omega) (by decide) rfl dX5_beginPulse_85 ?_
    refine lv_aload_n hx hb dX5_beginPulse_86 rfl (lv_at hl 0 rfl) ?_
    refine lv_aload_n hx hb dX5_beginPulse_87 rfl (lv_at hl 0 rfl) ?_
    refine va_get (D := E.1) (ci := 5) (v := .ref (A 1)) (C := RX5) (T := TX5) (N := 15) hx hb hts hiX5 hown hK hP 0 rfl rfl 1 (by decide) hf7 (fun _ h9 => h9) rfl dX5_beginPulse_88 ?_
    refine lv_bipush (v := 16) hx hb dX5_beginPulse_91 (by decide) ?_
    refine gald (x := z 16) hx hb hK hP 1 rfl 16 (rfl) (by decide) (by decide) rfl dX5_beginPulse_93 ?_
    refine W.eq (g2 := F0 m 94 ls [.int (nI (mOf z)), .ref (A 0), .int (z (35 + 7 * k0 + 0))]) (by rw [hz.2.2.2.1]) ?_
    refine gv0i (As := [.int (nI (mOf z))]) (rest := [.int (z (35 + 7 * k0 + 0))]) ⟨hx, hb, hml, hown, hts⟩ (c_X5_sum l E A G z a t r h (mOf z) (by have := hz.2.2.1; have := hz.2.2.2.2.2.1; omega)) (cwV 1 hts gX5_beginPulse_X5_sum rfl rfl rfl (by decide +kernel) ⟨Nat.le_of_ble_eq_true rfl, Nat.le_of_ble_eq_true rfl⟩) (va_recv hK hP (ci := 5) (q0 := 0) rfl rfl) hP hK hD hN hS hA rfl hl.1 rfl (Nat.le_of_ble_eq_true rfl) dX5_beginPulse_94 ⟨Nat.le_refl _, Nat.le_refl _⟩ (fun H locs hP hD hS => ?_)
    refine lv_aload_n hx hb dX5_beginPulse_97 rfl (lv_at hl 0 rfl) ?_
    refine va_get (D := E.1) (ci := 5) (v := .ref (A 1)) (C := RX5) (T := TX5) (N := 15) hx hb hts hiX5 hown hK hP 0 rfl rfl 1 (by decide) hf7 (fun _ h9 => h9) rfl dX5_beginPulse_98 ?_
    refine lv_bipush (v := 16) hx hb dX5_beginPulse_101 (by decide) ?_
    refine gald (x := z 16) hx hb hK hP 1 rfl 16 (rfl) (by decide) (by decide) rfl dX5_beginPulse_103 ?_
    refine lv_idiv hx hb dX5_beginPulse_104 (zOK_m0 hz) ?_
    refine lv_isub hx hb dX5_beginPulse_105 ?_
    refine lv_istore_n (lv' := [(3, .int ((z (35 + 7 * k0 + 0)) - ((sumC (mOf z) z) / (z 16)))), (0, .ref (A 0)), (1, .int (nI k0)), (2, .int v1)]) hx hb dX5_beginPulse_106 rfl hl (by decide) rfl (fun ls hl => ?_)
    refine lv_aload_n hx hb dX5_beginPulse_107 rfl (lv_at hl 1 rfl) ?_
    refine va_get (D := E.1) (ci := 5) (v := .ref (A 1)) (C := RX5) (T := TX5) (N := 15) hx hb hts hiX5 hown hK hP 0 rfl rfl 1 (by decide) hf7 (fun _ h9 => h9) rfl dX5_beginPulse_108 ?_
    refine lv_bipush (v := 21) hx hb dX5_beginPulse_111 (by decide) ?_
    refine gald (x := z 21) hx hb hK hP 1 rfl 21 (rfl) (by decide) (by decide) rfl dX5_beginPulse_113 ?_
    refine lv_iload_n hx hb dX5_beginPulse_114 rfl (lv_at hl 0 rfl) ?_
    refine lv_aload_n hx hb dX5_beginPulse_115 rfl (lv_at hl 1 rfl) ?_
    refine va_get (D := E.1) (ci := 5) (v := .ref (A 1)) (C := RX5) (T := TX5) (N := 15) hx hb hts hiX5 hown hK hP 0 rfl rfl 1 (by decide) hf7 (fun _ h9 => h9) rfl dX5_beginPulse_116 ?_
    refine lv_bipush (v := 14) hx hb dX5_beginPulse_119 (by decide) ?_
    refine gald (x := z 14) hx hb hK hP 1 rfl 14 (rfl) (by decide) (by decide) rfl dX5_beginPulse_121 ?_
    refine lv_imul hx hb dX5_beginPulse_122 ?_
    refine lv_sipush (v := 1000) hx hb dX5_beginPulse_123 (by decide) ?_
    refine lv_idiv hx hb dX5_beginPulse_126 (by decide) ?_
    refine lv_isub hx hb dX5_beginPulse_127 ?_
    refine lv_iconst (v := 0) hx hb dX5_beginPulse_128 (by decide) ?_
    refine lv_sipush (v := 900) hx hb dX5_beginPulse_129 (by decide) ?_
    refine gsPi (As := [.int ((z 21) - ((((z (35 + 7 * k0 + 0)) - ((sumC (mOf z) z) / (z 16))) * (z 14)) / 1000)), .int 0, .int 900]) (rest := []) ⟨hx, hb, hml, hown, hts⟩ (c_X5_clamped l E ((z 21) - ((((z (35 + 7 * k0 + 0)) - ((sumC (mOf z) z) / (z 16))) * (z 14)) / 1000)) 0 900) (va_cwS 3 hts gX5_beginPulse_X5_clamped rfl rfl rfl (by decide +kernel) ⟨Nat.le_of_ble_eq_true rfl, Nat.le_of_ble_eq_true rfl⟩) hP hK hD hN hS hA rfl hl.1 rfl (Nat.le_of_ble_eq_true rfl) dX5_beginPulse_132 ⟨Nat.le_refl _, Nat.le_refl _⟩ (fun H locs hP hD hS => ?_)
    refine lv_istore (lv' := [(4, .int (clampI ((z 21) - ((((z (35 + 7 * k0 + 0)) - ((sumC (mOf z) z) / (z 16))) * (z 14)) / 1000)) 0 900)), (3, .int ((z (35 + 7 * k0 + 0)) - ((sumC (mOf z) z) / (z 16)))), (0, .ref (A 0)), (1, .int (nI k0)), (2, .int v1)]) hx hb dX5_beginPulse_135 hl (by decide) rfl (fun ls hl => ?_)
    refine lv_aload_n hx hb dX5_beginPulse_137 rfl (lv_at hl 2 rfl) ?_
    refine va_get (D := E.1) (ci := 5) (v := .ref (A 1)) (C := RX5) (T := TX5) (N := 15) hx hb hts hiX5 hown hK hP 0 rfl rfl 1 (by decide) hf7 (fun _ h9 => h9) rfl dX5_beginPulse_138 ?_
    refine lv_iload_n hx hb dX5_beginPulse_141 rfl (lv_at hl 3 rfl) ?_
    refine lv_iconst (v := 2) hx hb dX5_beginPulse_142 (by decide) ?_
    refine gsPi (As := [.int (nI k0), .int 2]) (rest := [.ref (A 1)]) ⟨hx, hb, hml, hown, hts⟩ (c_X5_at l E k0 2) (va_cwS 2 hts gX5_beginPulse_X5_at rfl rfl rfl (by decide +kernel) ⟨Nat.le_of_ble_eq_true rfl, Nat.le_of_ble_eq_true rfl⟩) hP hK hD hN hS hA rfl hl.1 rfl (Nat.le_of_ble_eq_true rfl) dX5_beginPulse_143 ⟨Nat.le_refl _, Nat.le_refl _⟩ (fun H locs hP hD hS => ?_)
    refine gald (x := z (35 + 7 * k0 + 2)) hx hb hK hP 1 rfl (35 + 7 * k0 + 2) (rfl) (by omega) (by decide) rfl dX5_beginPulse_146 ?_
    refine lv_bipush (v := 20) hx hb dX5_beginPulse_147 (by decide) ?_
    refine lv_iload hx hb dX5_beginPulse_149 (lv_at hl 0 rfl) ?_
    refine lv_imul hx hb dX5_beginPulse_151 ?_
    refine lv_iadd hx hb dX5_beginPulse_152 ?_
    refine lv_istore (lv' := [(5, .int ((z (35 + 7 * k0 + 2)) + (20 * (clampI ((z 21) - ((((z (35 + 7 * k0 + 0)) - ((sumC (mOf z) z) / (z 16))) * (z 14)) / 1000)) 0 900)))), (4, .int (clampI ((z 21) - ((((z (35 + 7 * k0 + 0)) - ((sumC (mOf z) z) / (z 16))) * (z 14)) / 1000)) 0 900)), (3, .int ((z (35 + 7 * k0 + 0)) - ((sumC (mOf z) z) / (z 16)))), (0, .ref (A 0)), (1, .int (nI k0)), (2, .int v1)]) hx hb dX5_beginPulse_153 hl (by decide) rfl (fun ls hl => ?_)
    refine lv_aload_n hx hb dX5_beginPulse_155 rfl (lv_at hl 3 rfl) ?_
    refine va_get (D := E.1) (ci := 5) (v := .ref (A 1)) (C := RX5) (T := TX5) (N := 15) hx hb hts hiX5 hown hK hP 0 rfl rfl 1 (by decide) hf7 (fun _ h9 => h9) rfl dX5_beginPulse_156 ?_
    refine lv_iload_n hx hb dX5_beginPulse_159 rfl (lv_at hl 4 rfl) ?_
    refine lv_iconst (v := 1) hx hb dX5_beginPulse_160 (by decide) ?_
    refine gsPi (As := [.int (nI k0), .int 1]) (rest := [.ref (A 1)]) ⟨hx, hb, hml, hown, hts⟩ (c_X5_at l E k0 1) (va_cwS 2 hts gX5_beginPulse_X5_at rfl rfl rfl (by decide +kernel) ⟨Nat.le_of_ble_eq_true rfl, Nat.le_of_ble_eq_true rfl⟩) hP hK hD hN hS hA rfl hl.1 rfl (Nat.le_of_ble_eq_true rfl) dX5_beginPulse_161 ⟨Nat.le_refl _, Nat.le_refl _⟩ (fun H locs hP hD hS => ?_)
    refine lv_iload hx hb dX5_beginPulse_164 (lv_at hl 0 rfl) ?_
    refine lv_sipush (v := 1000) hx hb dX5_beginPulse_166 (by decide) ?_
    refine lv_idiv hx hb dX5_beginPulse_169 (by decide) ?_
    refine gast hx hb hK hP hD hS 1 rfl (35 + 7 * k0 + 1) (rfl) (by omega) (by decide) dX5_beginPulse_170 (fun H locs hP hD hS => ?_)
    have hP : va_P E.1 vwCl (wM E A G (upd z (35 + 7 * k0 + 1) (((z (35 + 7 * k0 + 2)) + (20 * (clampI ((z 21) - ((((z (35 + 7 * k0 + 0)) - ((sumC (mOf z) z) / (z 16))) * (z 14)) / 1000)) 0 900))) / 1000)) a t r h) H := hP
    have hD : va_D _ (wM E A G (upd z (35 + 7 * k0 + 1) (((z (35 + 7 * k0 + 2)) + (20 * (clampI ((z 21) - ((((z (35 + 7 * k0 + 0)) - ((sumC (mOf z) z) / (z 16))) * (z 14)) / 1000)) 0 900))) / 1000)) a t r h) := hD
    refine lv_aload_n hx hb dX5_beginPulse_171 rfl (lv_at hl 3 rfl) ?_
    refine va_get (D := E.1) (ci := 5) (v := .ref (A 1)) (C := RX5) (T := TX5) (N := 15) hx hb hts hiX5 hown hK hP 0 rfl rfl 1 (by decide) hf7 (fun _ h9 => h9) rfl dX5_beginPulse_172 ?_
    refine lv_iload_n hx hb dX5_beginPulse_175 rfl (lv_at hl 4 rfl) ?_
    refine lv_iconst (v := 2) hx hb dX5_beginPulse_176 (by decide) ?_
    refine gsPi (As := [.int (nI k0), .int 2]) (rest := [.ref (A 1)]) ⟨hx, hb, hml, hown, hts⟩ (c_X5_at l E k0 2) (va_cwS 2 hts gX5_beginPulse_X5_at rfl rfl rfl (by decide +kernel) ⟨Nat.le_of_ble_eq_true rfl, Nat.le_of_ble_eq_true rfl⟩) hP hK hD hN hS hA rfl hl.1 rfl (Nat.le_of_ble_eq_true rfl) dX5_beginPulse_177 ⟨Nat.le_refl _, Nat.le_refl _⟩ (fun H locs hP hD hS => ?_)
    refine lv_iload hx hb dX5_beginPulse_180 (lv_at hl 0 rfl) ?_
    refine lv_sipush (v := 1000) hx hb dX5_beginPulse_182 (by decide) ?_
    refine lv_irem hx hb dX5_beginPulse_185 (by decide) ?_
    refine gast hx hb hK hP hD hS 1 rfl (35 + 7 * k0 + 2) (rfl) (by omega) (by decide) dX5_beginPulse_186 (fun H locs hP hD hS => ?_)
    have hP : va_P E.1 vwCl (wM E A G (upd (upd z (35 + 7 * k0 + 1) (((z (35 + 7 * k0 + 2)) + (20 * (clampI ((z 21) - ((((z (35 + 7 * k0 + 0)) - ((sumC (mOf z) z) / (z 16))) * (z 14)) / 1000)) 0 900))) / 1000)) (35 + 7 * k0 + 2) (((z (35 + 7 * k0 + 2)) + (20 * (clampI ((z 21) - ((((z (35 + 7 * k0 + 0)) - ((sumC (mOf z) z) / (z 16))) * (z 14)) / 1000)) 0 900))) - ((z (35 + 7 * k0 + 2)) + (20 * (clampI ((z 21) - ((((z (35 + 7 * k0 + 0)) - ((sumC (mOf z) z) / (z 16))) * (z 14)) / 1000)) 0 900))) / 1000 * 1000)) a t r h) H := hP
    have hD : va_D _ (wM E A G (upd (upd z (35 + 7 * k0 + 1) (((z (35 + 7 * k0 + 2)) + (20 * (clampI ((z 21) - ((((z (35 + 7 * k0 + 0)) - ((sumC (mOf z) z) / (z 16))) * (z 14)) / 1000)) 0 900))) / 1000)) (35 + 7 * k0 + 2) (((z (35 + 7 * k0 + 2)) + (20 * (clampI ((z 21) - ((((z (35 + 7 * k0 + 0)) - ((sumC (mOf z) z) / (z 16))) * (z 14)) / 1000)) 0 900))) - ((z (35 + 7 * k0 + 2)) + (20 * (clampI ((z 21) - ((((z (35 + 7 * k0 + 0)) - ((sumC (mOf z) z) / (z 16))) * (z 14)) / 1000)) 0 900))) / 1000 * 1000)) a t r h) := hD
    refine lv_aload_n hx hb dX5_beginPulse_187 rfl (lv_at hl 3 rfl) ?_
    refine va_get (D := E.1) (ci := 5) (v := .ref (A 1)) (C := RX5) (T := TX5) (N := 15) hx hb hts hiX5 hown hK hP 0 rfl rfl 1 (by decide) hf7 (fun _ h9 => h9) rfl dX5_beginPulse_188 ?_
    refine lv_iload_n hx hb dX5_beginPulse_191 rfl (lv_at hl 4 rfl) ?_
    refine lv_bipush (v := 6) hx hb dX5_beginPulse_192 (by decide) ?_
    refine gsPi (As := [.int (nI k0), .int 6]) (rest := [.ref (A 1)]) ⟨hx, hb, hml, hown, hts⟩ (c_X5_at l E k0 6) (va_cwS 2 hts gX5_beginPulse_X5_at rfl rfl rfl (by decide +kernel) ⟨Nat.le_of_ble_eq_true rfl, Nat.le_of_ble_eq_true rfl⟩) hP hK hD hN hS hA rfl hl.1 rfl (Nat.le_of_ble_eq_true rfl) dX5_beginPulse_194 ⟨Nat.le_refl _, Nat.le_refl _⟩ (fun H locs hP hD hS => ?_)
    refine lv_dup2_11 hx hb dX5_beginPulse_197 rfl rfl ?_
    refine gald (x := z (35 + 7 * k0 + 6)) hx hb hK hP 1 rfl (35 + 7 * k0 + 6) (rfl) (by omega) (by decide) ((pk_un (by omega)).trans ((pk_un (by omega)).trans rfl)) dX5_beginPulse_198 ?_
    refine lv_iconst (v := 1) hx hb dX5_beginPulse_199 (by decide) ?_
    refine lv_iadd hx hb dX5_beginPulse_200 ?_
    refine gast hx hb hK hP hD hS 1 rfl (35 + 7 * k0 + 6) (rfl) (by omega) (by decide) dX5_beginPulse_201 (fun H locs hP hD hS => ?_)
    have hP : va_P E.1 vwCl (wM E A G (upd (upd (upd z (35 + 7 * k0 + 1) (((z (35 + 7 * k0 + 2)) + (20 * (clampI ((z 21) - ((((z (35 + 7 * k0 + 0)) - ((sumC (mOf z) z) / (z 16))) * (z 14)) / 1000)) 0 900))) / 1000)) (35 + 7 * k0 + 2) (((z (35 + 7 * k0 + 2)) + (20 * (clampI ((z 21) - ((((z (35 + 7 * k0 + 0)) - ((sumC (mOf z) z) / (z 16))) * (z 14)) / 1000)) 0 900))) - ((z (35 + 7 * k0 + 2)) + (20 * (clampI ((z 21) - ((((z (35 + 7 * k0 + 0)) - ((sumC (mOf z) z) / (z 16))) * (z 14)) / 1000)) 0 900))) / 1000 * 1000)) (35 + 7 * k0 + 6) ((z (35 + 7 * k0 + 6)) + 1)) a t r h) H := hP
    have hD : va_D _ (wM E A G (upd (upd (upd z (35 + 7 * k0 + 1) (((z (35 + 7 * k0 + 2)) + (20 * (clampI ((z 21) - ((((z (35 + 7 * k0 + 0)) - ((sumC (mOf z) z) / (z 16))) * (z 14)) / 1000)) 0 900))) / 1000)) (35 + 7 * k0 + 2) (((z (35 + 7 * k0 + 2)) + (20 * (clampI ((z 21) - ((((z (35 + 7 * k0 + 0)) - ((sumC (mOf z) z) / (z 16))) * (z 14)) / 1000)) 0 900))) - ((z (35 + 7 * k0 + 2)) + (20 * (clampI ((z 21) - ((((z (35 + 7 * k0 + 0)) - ((sumC (mOf z) z) / (z 16))) * (z 14)) / 1000)) 0 900))) / 1000 * 1000)) (35 + 7 * k0 + 6) ((z (35 + 7 * k0 + 6)) + 1)) a t r h) := hD
    exact gretv hx hb hr hlocks hP hD hS (by simp only [beginP, if_pos c_14]; rfl) dX5_beginPulse_202
  · refine lv_aload_n hx hb dX5_beginPulse_17 rfl (lv_at hl 0 rfl) ?_
    refine va_get (D := E.1) (ci := 5) (v := .ref (A 1)) (C := RX5) (T := TX5) (N := 15) hx hb hts hiX5 hown hK hP 0 rfl rfl 1 (by decide) hf7 (fun _ h9 => h9) rfl dX5_beginPulse_18 ?_
    refine lv_bipush (v := 20) hx hb dX5_beginPulse_21 (by decide) ?_
    refine gald (x := z 20) hx hb hK hP 1 rfl 20 (rfl) (by decide) (by decide) rfl dX5_beginPulse_23 ?_
    refine lv_iconst (v := 1) hx hb dX5_beginPulse_24 (by decide) ?_
    refine lv_icmp_eq (tgt := 39) hx hb dX5_beginPulse_25 (by decide) (fun c_25 => ?_) (fun c_25 => ?_)
    · refine lv_aload_n hx hb dX5_beginPulse_39 rfl (lv_at hl 0 rfl) ?_
      refine va_get (D := E.1) (ci := 5) (v := .ref (A 1)) (C := RX5) (T := TX5) (N := 15) hx hb hts hiX5 hown hK hP 0 rfl rfl 1 (by decide) hf7 (fun _ h9 => h9) rfl dX5_beginPulse_40 ?_
      refine lv_iload_n hx hb dX5_beginPulse_43 rfl (lv_at hl 1 rfl) ?_
      refine lv_iconst (v := 1) hx hb dX5_beginPulse_44 (by decide) ?_
      refine gsPi (As := [.int (nI k0), .int 1]) (rest := [.ref (A 1)]) ⟨hx, hb, hml, hown, hts⟩ (c_X5_at l E k0 1) (va_cwS 2 hts gX5_beginPulse_X5_at rfl rfl rfl (by decide +kernel) ⟨Nat.le_of_ble_eq_true rfl, Nat.le_of_ble_eq_true rfl⟩) hP hK hD hN hS hA rfl hl.1 rfl (Nat.le_of_ble_eq_true rfl) dX5_beginPulse_45 ⟨Nat.le_refl _, Nat.le_refl _⟩ (fun H locs hP hD hS => ?_)
      refine lv_iconst (v := 0) hx hb dX5_beginPulse_48 (by decide) ?_
      refine gast hx hb hK hP hD hS 1 rfl (35 + 7 * k0 + 1) (rfl) (by omega) (by decide) dX5_beginPulse_49 (fun H locs hP hD hS => ?_)
      have hP : va_P E.1 vwCl (wM E A G (upd z (35 + 7 * k0 + 1) 0) a t r h) H := hP
      have hD : va_D _ (wM E A G (upd z (35 + 7 * k0 + 1) 0) a t r h) := hD
      refine lv_aload_n hx hb dX5_beginPulse_50 rfl (lv_at hl 0 rfl) ?_
      refine va_get (D := E.1) (ci := 5) (v := .ref (A 1)) (C := RX5) (T := TX5) (N := 15) hx hb hts hiX5 hown hK hP 0 rfl rfl 1 (by decide) hf7 (fun _ h9 => h9) rfl dX5_beginPulse_51 ?_
      refine lv_iload_n hx hb dX5_beginPulse_54 rfl (lv_at hl 1 rfl) ?_
      refine lv_iconst (v := 5) hx hb dX5_beginPulse_55 (by decide) ?_
      refine gsPi (As := [.int (nI k0), .int 5]) (rest := [.ref (A 1)]) ⟨hx, hb, hml, hown, hts⟩ (c_X5_at l E k0 5) (va_cwS 2 hts gX5_beginPulse_X5_at rfl rfl rfl (by decide +kernel) ⟨Nat.le_of_ble_eq_true rfl, Nat.le_of_ble_eq_true rfl⟩) hP hK hD hN hS hA rfl hl.1 rfl (Nat.le_of_ble_eq_true rfl) dX5_beginPulse_56 ⟨Nat.le_refl _, Nat.le_refl _⟩ (fun H locs hP hD hS => ?_)
      refine lv_dup2_11 hx hb dX5_beginPulse_59 rfl rfl ?_
      refine gald (x := z (35 + 7 * k0 + 5)) hx hb hK hP 1 rfl (35 + 7 * k0 + 5) (rfl) (by omega) (by decide) ((pk_un (by omega)).trans rfl) dX5_beginPulse_60 ?_
      refine lv_iconst (v := 1) hx hb dX5_beginPulse_61 (by decide) ?_
      refine lv_iadd hx hb dX5_beginPulse_62 ?_
      refine gast hx hb hK hP hD hS 1 rfl (35 + 7 * k0 + 5) (rfl) (by omega) (by decide) dX5_beginPulse_63 (fun H locs hP hD hS => ?_)
      have hP : va_P E.1 vwCl (wM E A G (upd (upd z (35 + 7 * k0 + 1) 0) (35 + 7 * k0 + 5) ((z (35 + 7 * k0 + 5)) + 1)) a t r h) H := hP
      have hD : va_D _ (wM E A G (upd (upd z (35 + 7 * k0 + 1) 0) (35 + 7 * k0 + 5) ((z (35 + 7 * k0 + 5)) + 1)) a t r h) := hD
      refine lv_aload_n hx hb dX5_beginPulse_64 rfl (lv_at hl 0 rfl) ?_
      refine va_get (D := E.1) (ci := 5) (v := .ref (A 1)) (C := RX5) (T := TX5) (N := 15) hx hb hts hiX5 hown hK hP 0 rfl rfl 1 (by decide) hf7 (fun _ h9 => h9) rfl dX5_beginPulse_65 ?_
      refine lv_bipush (v := 26) hx hb dX5_beginPulse_68 (by decide) ?_
      refine lv_dup2_11 hx hb dX5_beginPulse_70 rfl rfl ?_
      refine gald (x := z 26) hx hb hK hP 1 rfl 26 (rfl) (by decide) (by decide) ((pk_un (by omega)).trans ((pk_un (by omega)).trans rfl)) dX5_beginPulse_71 ?_
      refine lv_iconst (v := 1) hx hb dX5_beginPulse_72 (by decide) ?_
      refine lv_iadd hx hb dX5_beginPulse_73 ?_
      refine gast hx hb hK hP hD hS 1 rfl 26 (rfl) (by decide) (by decide) dX5_beginPulse_74 (fun H locs hP hD hS => ?_)
      have hP : va_P E.1 vwCl (wM E A G (upd (upd (upd z (35 + 7 * k0 + 1) 0) (35 + 7 * k0 + 5) ((z (35 + 7 * k0 + 5)) + 1)) 26 ((z 26) + 1)) a t r h) H := hP
      have hD : va_D _ (wM E A G (upd (upd (upd z (35 + 7 * k0 + 1) 0) (35 + 7 * k0 + 5) ((z (35 + 7 * k0 + 5)) + 1)) 26 ((z 26) + 1)) a t r h) := hD
      exact gretv hx hb hr hlocks hP hD hS (by simp only [beginP, if_neg c_14, if_pos c_25]; rfl) dX5_beginPulse_75
    · refine lv_iload_n hx hb dX5_beginPulse_28 rfl (lv_at hl 2 rfl) ?_
      refine lv_aload_n hx hb dX5_beginPulse_29 rfl (lv_at hl 0 rfl) ?_
      refine va_get (D := E.1) (ci := 5) (v := .ref (A 1)) (C := RX5) (T := TX5) (N := 15) hx hb hts hiX5 hown hK hP 0 rfl rfl 1 (by decide) hf7 (fun _ h9 => h9) rfl dX5_beginPulse_30 ?_
      refine lv_bipush (v := 9) hx hb dX5_beginPulse_33 (by decide) ?_
      refine gald (x := z 9) hx hb hK hP 1 rfl 9 (rfl) (by decide) (by decide) rfl dX5_beginPulse_35 ?_
      refine lv_icmp_ge (tgt := 76) hx hb dX5_beginPulse_36 (by decide) (fun c_36 => ?_) (fun c_36 => ?_)
      · refine lv_aload_n hx hb dX5_beginPulse_76 rfl (lv_at hl 0 rfl) ?_
        refine va_get (D := E.1) (ci := 5) (v := .ref (A 1)) (C := RX5) (T := TX5) (N := 15) hx hb hts hiX5 hown hK hP 0 rfl rfl 1 (by decide) hf7 (fun _ h9 => h9) rfl dX5_beginPulse_77 ?_
        refine lv_iload_n hx hb dX5_beginPulse_80 rfl (lv_at hl 1 rfl) ?_
        refine lv_iconst (v := 0) hx hb dX5_beginPulse_81 (by decide) ?_
        refine gsPi (As := [.int (nI k0), .int 0]) (rest := [.ref (A 1)]) ⟨hx, hb, hml, hown, hts⟩ (c_X5_at l E k0 0) (va_cwS 2 hts gX5_beginPulse_X5_at rfl rfl rfl (by decide +kernel) ⟨Nat.le_of_ble_eq_true rfl, Nat.le_of_ble_eq_true rfl⟩) hP hK hD hN hS hA rfl hl.1 rfl (Nat.le_of_ble_eq_true rfl) dX5_beginPulse_82 ⟨Nat.le_refl _, Nat.le_refl _⟩ (fun H locs hP hD hS => ?_)
        refine gald (x := z (35 + 7 * k0 + 0)) hx hb hK hP 1 rfl (35 + 7 * k0 + 0) (rfl) (by omega) (by decide) rfl dX5_beginPulse_85 ?_
        refine lv_aload_n hx hb dX5_beginPulse_86 rfl (lv_at hl 0 rfl) ?_
        refine lv_aload_n hx hb dX5_beginPulse_87 rfl (lv_at hl 0 rfl) ?_
        refine va_get (D := E.1) (ci := 5) (v := .ref (A 1)) (C := RX5) (T := TX5) (N := 15) hx hb hts hiX5 hown hK hP 0 rfl rfl 1 (by decide) hf7 (fun _ h9 => h9) rfl dX5_beginPulse_88 ?_
        refine lv_bipush (v := 16) hx hb dX5_beginPulse_91 (by decide) ?_
        refine gald (x := z 16) hx hb hK hP 1 rfl 16 (rfl) (by decide) (by decide) rfl dX5_beginPulse_93 ?_
        refine W.eq (g2 := F0 m 94 ls [.int (nI (mOf z)), .ref (A 0), .int (z (35 + 7 * k0 + 0))]) (by rw [hz.2.2.2.1]) ?_
        refine gv0i (As := [.int (nI (mOf z))]) (rest := [.int (z (35 + 7 * k0 + 0))]) ⟨hx, hb, hml, hown, hts⟩ (c_X5_sum l E A G z a t r h (mOf z) (by have := hz.2.2.1; have := hz.2.2.2.2.2.1; omega)) (cwV 1 hts gX5_beginPulse_X5_sum rfl rfl rfl (by decide +kernel) ⟨Nat.le_of_ble_eq_true rfl, Nat.le_of_ble_eq_true rfl⟩) (va_recv hK hP (ci := 5) (q0 := 0) rfl rfl) hP hK hD hN hS hA rfl hl.1 rfl (Nat.le_of_ble_eq_true rfl) dX5_beginPulse_94 ⟨Nat.le_refl _, Nat.le_refl _⟩ (fun H locs hP hD hS => ?_)
        refine lv_aload_n hx hb dX5_beginPulse_97 rfl (lv_at hl 0 rfl) ?_
        refine va_get (D := E.1) (ci := 5) (v := .ref (A 1)) (C := RX5) (T := TX5) (N := 15) hx hb hts hiX5 hown hK hP 0 rfl rfl 1 (by decide) hf7 (fun _ h9 => h9) rfl dX5_beginPulse_98 ?_
        refine lv_bipush (v := 16) hx hb dX5_beginPulse_101 (by decide) ?_
        refine gald (x := z 16) hx hb hK hP 1 rfl 16 (rfl) (by decide) (by decide) rfl dX5_beginPulse_103 ?_
        refine lv_idiv hx hb dX5_beginPulse_104 (zOK_m0 hz) ?_
        refine lv_isub hx hb dX5_beginPulse_105 ?_
        refine lv_istore_n (lv' := [(3, .int ((z (35 + 7 * k0 + 0)) - ((sumC (mOf z) z) / (z 16)))), (0, .ref (A 0)), (1, .int (nI k0)), (2, .int v1)]) hx hb dX5_beginPulse_106 rfl hl (by decide) rfl (fun ls hl => ?_)
        refine lv_aload_n hx hb dX5_beginPulse_107 rfl (lv_at hl 1 rfl) ?_
        refine va_get (D := E.1) (ci := 5) (v := .ref (A 1)) (C := RX5) (T := TX5) (N := 15) hx hb hts hiX5 hown hK hP 0 rfl rfl 1 (by decide) hf7 (fun _ h9 => h9) rfl dX5_beginPulse_108 ?_
        refine lv_bipush (v := 21) hx hb dX5_beginPulse_111 (by decide) ?_
        refine gald (x := z 21) hx hb hK hP 1 rfl 21 (rfl) (by decide) (by decide) rfl dX5_beginPulse_113 ?_
        refine lv_iload_n hx hb dX5_beginPulse_114 rfl (lv_at hl 0 rfl) ?_
        refine lv_aload_n hx hb dX5_beginPulse_115 rfl (lv_at hl 1 rfl) ?_
        refine va_get (D := E.1) (ci := 5) (v := .ref (A 1)) (C := RX5) (T := TX5) (N := 15) hx hb hts hiX5 hown hK hP 0 rfl rfl 1 (by decide) hf7 (fun _ h9 => h9) rfl dX5_beginPulse_116 ?_
        refine lv_bipush (v := 14) hx hb dX5_beginPulse_119 (by decide) ?_
        refine gald (x := z 14) hx hb hK hP 1 rfl 14 (rfl) (by decide) (by decide) rfl dX5_beginPulse_121 ?_
        refine lv_imul hx hb dX5_beginPulse_122 ?_
        refine lv_sipush (v := 1000) hx hb dX5_beginPulse_123 (by decide) ?_
        refine lv_idiv hx hb dX5_beginPulse_126 (by decide) ?_
        refine lv_isub hx hb dX5_beginPulse_127 ?_
        refine lv_iconst (v := 0) hx hb dX5_beginPulse_128 (by decide) ?_
        refine lv_sipush (v := 900) hx hb dX5_beginPulse_129 (by decide) ?_
        refine gsPi (As := [.int ((z 21) - ((((z (35 + 7 * k0 + 0)) - ((sumC (mOf z) z) / (z 16))) * (z 14)) / 1000)), .int 0, .int 900]) (rest := []) ⟨hx, hb, hml, hown, hts⟩ (c_X5_clamped l E ((z 21) - ((((z (35 + 7 * k0 + 0)) - ((sumC (mOf z) z) / (z 16))) * (z 14)) / 1000)) 0 900) (va_cwS 3 hts gX5_beginPulse_X5_clamped rfl rfl rfl (by decide +kernel) ⟨Nat.le_of_ble_eq_true rfl, Nat.le_of_ble_eq_true rfl⟩) hP hK hD hN hS hA rfl hl.1 rfl (Nat.le_of_ble_eq_true rfl) dX5_beginPulse_132 ⟨Nat.le_refl _, Nat.le_refl _⟩ (fun H locs hP hD hS => ?_)
        refine lv_istore (lv' := [(4, .int (clampI ((z 21) - ((((z (35 + 7 * k0 + 0)) - ((sumC (mOf z) z) / (z 16))) * (z 14)) / 1000)) 0 900)), (3, .int ((z (35 + 7 * k0 + 0)) - ((sumC (mOf z) z) / (z 16)))), (0, .ref (A 0)), (1, .int (nI k0)), (2, .int v1)]) hx hb dX5_beginPulse_135 hl (by decide) rfl (fun ls hl => ?_)
        refine lv_aload_n hx hb dX5_beginPulse_137 rfl (lv_at hl 2 rfl) ?_
        refine va_get (D := E.1) (ci := 5) (v := .ref (A 1)) (C := RX5) (T := TX5) (N := 15) hx hb hts hiX5 hown hK hP 0 rfl rfl 1 (by decide) hf7 (fun _ h9 => h9) rfl dX5_beginPulse_138 ?_
        refine lv_iload_n hx hb dX5_beginPulse_141 rfl (lv_at hl 3 rfl) ?_
        refine lv_iconst (v := 2) hx hb dX5_beginPulse_142 (by decide) ?_
        refine gsPi (As := [.int (nI k0), .int 2]) (rest := [.ref (A 1)]) ⟨hx, hb, hml, hown, hts⟩ (c_X5_at l E k0 2) (va_cwS 2 hts gX5_beginPulse_X5_at rfl rfl rfl (by decide +kernel) ⟨Nat.le_of_ble_eq_true rfl, Nat.le_of_ble_eq_true rfl⟩) hP hK hD hN hS hA rfl hl.1 rfl (Nat.le_of_ble_eq_true rfl) dX5_beginPulse_143 ⟨Nat.le_refl _, Nat.le_refl _⟩ (fun H locs hP hD hS => ?_)
        refine gald (x := z (35 + 7 * k0 + 2)) hx hb hK hP 1 rfl (35 + 7 * k0 + 2) (rfl) (by omega) (by decide) rfl dX5_beginPulse_146 ?_
        refine lv_bipush (v := 20) hx hb dX5_beginPulse_147 (by decide) ?_
        refine lv_iload hx hb dX5_beginPulse_149 (lv_at hl 0 rfl) ?_
        refine lv_imul hx hb dX5_beginPulse_151 ?_
        refine lv_iadd hx hb dX5_beginPulse_152 ?_
        refine lv_istore (lv' := [(5, .int ((z (35 + 7 * k0 + 2)) + (20 * (clampI ((z 21) - ((((z (35 + 7 * k0 + 0)) - ((sumC (mOf z) z) / (z 16))) * (z 14)) / 1000)) 0 900)))), (4, .int (clampI ((z 21) - ((((z (35 + 7 * k0 + 0)) - ((sumC (mOf z) z) / (z 16))) * (z 14)) / 1000)) 0 900)), (3, .int ((z (35 + 7 * k0 + 0)) - ((sumC (mOf z) z) / (z 16)))), (0, .ref (A 0)), (1, .int (nI k0)), (2, .int v1)]) hx hb dX5_beginPulse_153 hl (by decide) rfl (fun ls hl => ?_)
        refine lv_aload_n hx hb dX5_beginPulse_155 rfl (lv_at hl 3 rfl) ?_
        refine va_get (D := E.1) (ci := 5) (v := .ref (A 1)) (C := RX5) (T := TX5) (N := 15) hx hb hts hiX5 hown hK hP 0 rfl rfl 1 (by decide) hf7 (fun _ h9 => h9) rfl dX5_beginPulse_156 ?_
        refine lv_iload_n hx hb dX5_beginPulse_159 rfl (lv_at hl 4 rfl) ?_
        refine lv_iconst (v := 1) hx hb dX5_beginPulse_160 (by decide) ?_
        refine gsPi (As := [.int (nI k0), .int 1]) (rest := [.ref (A 1)]) ⟨hx, hb, hml, hown, hts⟩ (c_X5_at l E k0 1) (va_cwS 2 hts gX5_beginPulse_X5_at rfl rfl rfl (by decide +kernel) ⟨Nat.le_of_ble_eq_true rfl, Nat.le_of_ble_eq_true rfl⟩) hP hK hD hN hS hA rfl hl.1 rfl (Nat.le_of_ble_eq_true rfl) dX5_beginPulse_161 ⟨Nat.le_refl _, Nat.le_refl _⟩ (fun H locs hP hD hS => ?_)
        refine lv_iload hx hb dX5_beginPulse_164 (lv_at hl 0 rfl) ?_
        refine lv_sipush (v := 1000) hx hb dX5_beginPulse_166 (by decide) ?_
        refine lv_idiv hx hb dX5_beginPulse_169 (by decide) ?_
        refine gast hx hb hK hP hD hS 1 rfl (35 + 7 * k0 + 1) (rfl) (by omega) (by decide) dX5_beginPulse_170 (fun H locs hP hD hS => ?_)
        have hP : va_P E.1 vwCl (wM E A G (upd z (35 + 7 * k0 + 1) (((z (35 + 7 * k0 + 2)) + (20 * (clampI ((z 21) - ((((z (35 + 7 * k0 + 0)) - ((sumC (mOf z) z) / (z 16))) * (z 14)) / 1000)) 0 900))) / 1000)) a t r h) H := hP
        have hD : va_D _ (wM E A G (upd z (35 + 7 * k0 + 1) (((z (35 + 7 * k0 + 2)) + (20 * (clampI ((z 21) - ((((z (35 + 7 * k0 + 0)) - ((sumC (mOf z) z) / (z 16))) * (z 14)) / 1000)) 0 900))) / 1000)) a t r h) := hD
        refine lv_aload_n hx hb dX5_beginPulse_171 rfl (lv_at hl 3 rfl) ?_
        refine va_get (D := E.1) (ci := 5) (v := .ref (A 1)) (C := RX5) (T := TX5) (N := 15) hx hb hts hiX5 hown hK hP 0 rfl rfl 1 (by decide) hf7 (fun _ h9 => h9) rfl dX5_beginPulse_172 ?_
        refine lv_iload_n hx hb dX5_beginPulse_175 rfl (lv_at hl 4 rfl) ?_
        refine lv_iconst (v := 2) hx hb dX5_beginPulse_176 (by decide) ?_
        refine gsPi (As := [.int (nI k0), .int 2]) (rest := [.ref (A 1)]) ⟨hx, hb, hml, hown, hts⟩ (c_X5_at l E k0 2) (va_cwS 2 hts gX5_beginPulse_X5_at rfl rfl rfl (by decide +kernel) ⟨Nat.le_of_ble_eq_true rfl, Nat.le_of_ble_eq_true rfl⟩) hP hK hD hN hS hA rfl hl.1 rfl (Nat.le_of_ble_eq_true rfl) dX5_beginPulse_177 ⟨Nat.le_refl _, Nat.le_refl _⟩ (fun H locs hP hD hS => ?_)
        refine lv_iload hx hb dX5_beginPulse_180 (lv_at hl 0 rfl) ?_
        refine lv_sipush (v := 1000) hx hb dX5_beginPulse_182 (by decide) ?_
        refine lv_irem hx hb dX5_beginPulse_185 (by decide) ?_
        refine gast hx hb hK hP hD hS 1 rfl (35 + 7 * k0 + 2) (rfl) (by omega) (by decide) dX5_beginPulse_186 (fun H locs hP hD hS => ?_)
        have hP : va_P E.1 vwCl (wM E A G (upd (upd z (35 + 7 * k0 + 1) (((z (35 + 7 * k0 + 2)) + (20 * (clampI ((z 21) - ((((z (35 + 7 * k0 + 0)) - ((sumC (mOf z) z) / (z 16))) * (z 14)) / 1000)) 0 900))) / 1000)) (35 + 7 * k0 + 2) (((z (35 + 7 * k0 + 2)) + (20 * (clampI ((z 21) - ((((z (35 + 7 * k0 + 0)) - ((sumC (mOf z) z) / (z 16))) * (z 14)) / 1000)) 0 900))) - ((z (35 + 7 * k0 + 2)) + (20 * (clampI ((z 21) - ((((z (35 + 7 * k0 + 0)) - ((sumC (mOf z) z) / (z 16))) * (z 14)) / 1000)) 0 900))) / 1000 * 1000)) a t r h) H := hP
        have hD : va_D _ (wM E A G (upd (upd z (35 + 7 * k0 + 1) (((z (35 + 7 * k0 + 2)) + (20 * (clampI ((z 21) - ((((z (35 + 7 * k0 + 0)) - ((sumC (mOf z) z) / (z 16))) * (z 14)) / 1000)) 0 900))) / 1000)) (35 + 7 * k0 + 2) (((z (35 + 7 * k0 + 2)) + (20 * (clampI ((z 21) - ((((z (35 + 7 * k0 + 0)) - ((sumC (mOf z) z) / (z 16))) * (z 14)) / 1000)) 0 900))) - ((z (35 + 7 * k0 + 2)) + (20 * (clampI ((z 21) - ((((z (35 + 7 * k0 + 0)) - ((sumC (mOf z) z) / (z 16))) * (z 14)) / 1000)) 0 900))) / 1000 * 1000)) a t r h) := hD
        refine lv_aload_n hx hb dX5_beginPulse_187 rfl (lv_at hl 3 rfl) ?_
        refine va_get (D := E.1) (ci := 5) (v := .ref (A 1)) (C := RX5) (T := TX5) (N := 15) hx hb hts hiX5 hown hK hP 0 rfl rfl 1 (by decide) hf7 (fun _ h9 => h9) rfl dX5_beginPulse_188 ?_
        refine lv_iload_n hx hb dX5_beginPulse_191 rfl (lv_at hl 4 rfl) ?_
        refine lv_bipush (v := 6) hx hb dX5_beginPulse_192 (by decide) ?_
        refine gsPi (As := [.int (nI k0), .int 6]) (rest := [.ref (A 1)]) ⟨hx, hb, hml, hown, hts⟩ (c_X5_at l E k0 6) (va_cwS 2 hts gX5_beginPulse_X5_at rfl rfl rfl (by decide +kernel) ⟨Nat.le_of_ble_eq_true rfl, Nat.le_of_ble_eq_true rfl⟩) hP hK hD hN hS hA rfl hl.1 rfl (Nat.le_of_ble_eq_true rfl) dX5_beginPulse_194 ⟨Nat.le_refl _, Nat.le_refl _⟩ (fun H locs hP hD hS => ?_)
        refine lv_dup2_11 hx hb dX5_beginPulse_197 rfl rfl ?_
        refine gald (x := z (35 + 7 * k0 + 6)) hx hb hK hP 1 rfl (35 + 7 * k0 + 6) (rfl) (by omega) (by decide) ((pk_un (by omega)).trans ((pk_un (by omega)).trans rfl)) dX5_beginPulse_198 ?_
        refine lv_iconst (v := 1) hx hb dX5_beginPulse_199 (by decide) ?_
        refine lv_iadd hx hb dX5_beginPulse_200 ?_
        refine gast hx hb hK hP hD hS 1 rfl (35 + 7 * k0 + 6) (rfl) (by omega) (by decide) dX5_beginPulse_201 (fun H locs hP hD hS => ?_)
        have hP : va_P E.1 vwCl (wM E A G (upd (upd (upd z (35 + 7 * k0 + 1) (((z (35 + 7 * k0 + 2)) + (20 * (clampI ((z 21) - ((((z (35 + 7 * k0 + 0)) - ((sumC (mOf z) z) / (z 16))) * (z 14)) / 1000)) 0 900))) / 1000)) (35 + 7 * k0 + 2) (((z (35 + 7 * k0 + 2)) + (20 * (clampI ((z 21) - ((((z (35 + 7 * k0 + 0)) - ((sumC (mOf z) z) / (z 16))) * (z 14)) / 1000)) 0 900))) - ((z (35 + 7 * k0 + 2)) + (20 * (clampI ((z 21) - ((((z (35 + 7 * k0 + 0)) - ((sumC (mOf z) z) / (z 16))) * (z 14)) / 1000)) 0 900))) / 1000 * 1000)) (35 + 7 * k0 + 6) ((z (35 + 7 * k0 + 6)) + 1)) a t r h) H := hP
        have hD : va_D _ (wM E A G (upd (upd (upd z (35 + 7 * k0 + 1) (((z (35 + 7 * k0 + 2)) + (20 * (clampI ((z 21) - ((((z (35 + 7 * k0 + 0)) - ((sumC (mOf z) z) / (z 16))) * (z 14)) / 1000)) 0 900))) / 1000)) (35 + 7 * k0 + 2) (((z (35 + 7 * k0 + 2)) + (20 * (clampI ((z 21) - ((((z (35 + 7 * k0 + 0)) - ((sumC (mOf z) z) / (z 16))) * (z 14)) / 1000)) 0 900))) - ((z (35 + 7 * k0 + 2)) + (20 * (clampI ((z 21) - ((((z (35 + 7 * k0 + 0)) - ((sumC (mOf z) z) / (z 16))) * (z 14)) / 1000)) 0 900))) / 1000 * 1000)) (35 + 7 * k0 + 6) ((z (35 + 7 * k0 + 6)) + 1)) a t r h) := hD
        exact gretv hx hb hr hlocks hP hD hS (by simp only [beginP, if_neg c_14, if_neg c_25, if_pos c_36]; rfl) dX5_beginPulse_202
      · refine lv_aload_n hx hb dX5_beginPulse_39 rfl (lv_at hl 0 rfl) ?_
        refine va_get (D := E.1) (ci := 5) (v := .ref (A 1)) (C := RX5) (T := TX5) (N := 15) hx hb hts hiX5 hown hK hP 0 rfl rfl 1 (by decide) hf7 (fun _ h9 => h9) rfl dX5_beginPulse_40 ?_
        refine lv_iload_n hx hb dX5_beginPulse_43 rfl (lv_at hl 1 rfl) ?_
        refine lv_iconst (v := 1) hx hb dX5_beginPulse_44 (by decide) ?_
        refine gsPi (As := [.int (nI k0), .int 1]) (rest := [.ref (A 1)]) ⟨hx, hb, hml, hown, hts⟩ (c_X5_at l E k0 1) (va_cwS 2 hts gX5_beginPulse_X5_at rfl rfl rfl (by decide +kernel) ⟨Nat.le_of_ble_eq_true rfl, Nat.le_of_ble_eq_true rfl⟩) hP hK hD hN hS hA rfl hl.1 rfl (Nat.le_of_ble_eq_true rfl) dX5_beginPulse_45 ⟨Nat.le_refl _, Nat.le_refl _⟩ (fun H locs hP hD hS => ?_)
        refine lv_iconst (v := 0) hx hb dX5_beginPulse_48 (by decide) ?_
        refine gast hx hb hK hP hD hS 1 rfl (35 + 7 * k0 + 1) (rfl) (by omega) (by decide) dX5_beginPulse_49 (fun H locs hP hD hS => ?_)
        have hP : va_P E.1 vwCl (wM E A G (upd z (35 + 7 * k0 + 1) 0) a t r h) H := hP
        have hD : va_D _ (wM E A G (upd z (35 + 7 * k0 + 1) 0) a t r h) := hD
        refine lv_aload_n hx hb dX5_beginPulse_50 rfl (lv_at hl 0 rfl) ?_
        refine va_get (D := E.1) (ci := 5) (v := .ref (A 1)) (C := RX5) (T := TX5) (N := 15) hx hb hts hiX5 hown hK hP 0 rfl rfl 1 (by decide) hf7 (fun _ h9 => h9) rfl dX5_beginPulse_51 ?_
        refine lv_iload_n hx hb dX5_beginPulse_54 rfl (lv_at hl 1 rfl) ?_
        refine lv_iconst (v := 5) hx hb dX5_beginPulse_55 (by decide) ?_
        refine gsPi (As := [.int (nI k0), .int 5]) (rest := [.ref (A 1)]) ⟨hx, hb, hml, hown, hts⟩ (c_X5_at l E k0 5) (va_cwS 2 hts gX5_beginPulse_X5_at rfl rfl rfl (by decide +kernel) ⟨Nat.le_of_ble_eq_true rfl, Nat.le_of_ble_eq_true rfl⟩) hP hK hD hN hS hA rfl hl.1 rfl (Nat.le_of_ble_eq_true rfl) dX5_beginPulse_56 ⟨Nat.le_refl _, Nat.le_refl _⟩ (fun H locs hP hD hS => ?_)
        refine lv_dup2_11 hx hb dX5_beginPulse_59 rfl rfl ?_
        refine gald (x := z (35 + 7 * k0 + 5)) hx hb hK hP 1 rfl (35 + 7 * k0 + 5) (rfl) (by omega) (by decide) ((pk_un (by omega)).trans rfl) dX5_beginPulse_60 ?_
        refine lv_iconst (v := 1) hx hb dX5_beginPulse_61 (by decide) ?_
        refine lv_iadd hx hb dX5_beginPulse_62 ?_
        refine gast hx hb hK hP hD hS 1 rfl (35 + 7 * k0 + 5) (rfl) (by omega) (by decide) dX5_beginPulse_63 (fun H locs hP hD hS => ?_)
        have hP : va_P E.1 vwCl (wM E A G (upd (upd z (35 + 7 * k0 + 1) 0) (35 + 7 * k0 + 5) ((z (35 + 7 * k0 + 5)) + 1)) a t r h) H := hP
        have hD : va_D _ (wM E A G (upd (upd z (35 + 7 * k0 + 1) 0) (35 + 7 * k0 + 5) ((z (35 + 7 * k0 + 5)) + 1)) a t r h) := hD
        refine lv_aload_n hx hb dX5_beginPulse_64 rfl (lv_at hl 0 rfl) ?_
        refine va_get (D := E.1) (ci := 5) (v := .ref (A 1)) (C := RX5) (T := TX5) (N := 15) hx hb hts hiX5 hown hK hP 0 rfl rfl 1 (by decide) hf7 (fun _ h9 => h9) rfl dX5_beginPulse_65 ?_
        refine lv_bipush (v := 26) hx hb dX5_beginPulse_68 (by decide) ?_
        refine lv_dup2_11 hx hb dX5_beginPulse_70 rfl rfl ?_
        refine gald (x := z 26) hx hb hK hP 1 rfl 26 (rfl) (by decide) (by decide) ((pk_un (by omega)).trans ((pk_un (by omega)).trans rfl)) dX5_beginPulse_71 ?_
        refine lv_iconst (v := 1) hx hb dX5_beginPulse_72 (by decide) ?_
        refine lv_iadd hx hb dX5_beginPulse_73 ?_
        refine gast hx hb hK hP hD hS 1 rfl 26 (rfl) (by decide) (by decide) dX5_beginPulse_74 (fun H locs hP hD hS => ?_)
        have hP : va_P E.1 vwCl (wM E A G (upd (upd (upd z (35 + 7 * k0 + 1) 0) (35 + 7 * k0 + 5) ((z (35 + 7 * k0 + 5)) + 1)) 26 ((z 26) + 1)) a t r h) H := hP
        have hD : va_D _ (wM E A G (upd (upd (upd z (35 + 7 * k0 + 1) 0) (35 + 7 * k0 + 5) ((z (35 + 7 * k0 + 5)) + 1)) 26 ((z 26) + 1)) a t r h) := hD
        exact gretv hx hb hr hlocks hP hD hS (by simp only [beginP, if_neg c_14, if_neg c_25, if_neg c_36]; rfl) dX5_beginPulse_75

set_option maxHeartbeats 4000000 in
set_option maxRecDepth 100000 in
theorem c_X5_step (l : Launch) (E : EE) (A : Nat → Nat) (G z a t r : Nat → Int32) (h : Int64) (k0 : Nat) (hz : zOK z) (hk : k0 < 4) : GM l yX5_step wsX5_step 1 21 E (wM E A G z a t r h) [.ref (A 0), .int (nI k0)] (wM E A G (step k0 z) a t r h) (none) := by
  intro sz
  refine Met.ofW (cc := cX5_step) (maxL := 2) (ret := none) (by decide) rfl ?_
  intro p e s m args below meth c s₁ B hml hv
  obtain ⟨rfl, rfl, hP, hK, hD0, hN⟩ := hv
  have hx := B.exec
  have hb := B.bytes
  have hr := B.returns
  have hts := atoms_spec (ws := wsX5_step) B.pre
  have hown : s.vm.findClass RX5 = some m.cls := findClass_of_methodNamed B.named
  have hlocks := B.notSynchronized
  have hD := hD0.self (sz := s.heap.size)
  have hA : ∀ q : Nat, s.heap.size ≤ q → va_A (wM E A G z a t r h) s.heap.size q := fun q h => Or.inr h
  have hS : va_S (va_A (wM E A G z a t r h) s.heap.size) s.heap s.heap [] := va_S.rf
  have hl := lv_entry ([.ref (A 0), .int (nI k0)]) (n := 2) (Nat.le_of_ble_eq_true rfl)
  rw [lg_entry_eq]
  generalize (lg_sl ([.ref (A 0), .int (nI k0)]) ++ List.replicate (2 - (lg_sl ([.ref (A 0), .int (nI k0)])).length) Slot.unset).toArray = ls at hl ⊢
  have hl : lv_has ls 2 [(0, .ref (A 0)), (1, .int (nI k0))] := hl
  have hf7 := hts (.fieldLink RX5 7 "PhaseConverterModel" "z" "[I") (by decide +kernel)
  have hiX5 : ∀ w ∈ u_ws RX5 TX5 15, w ∈ wsX5_step := by decide +kernel
  refine lv_aload_n hx hb dX5_step_0 rfl (lv_at hl 0 rfl) ?_
  refine va_get (D := E.1) (ci := 5) (v := .ref (A 1)) (C := RX5) (T := TX5) (N := 15) hx hb hts hiX5 hown hK hP 0 rfl rfl 1 (by decide) hf7 (fun _ h9 => h9) rfl dX5_step_1 ?_
  refine lv_iload_n hx hb dX5_step_4 rfl (lv_at hl 1 rfl) ?_
  refine lv_iconst (v := 1) hx hb dX5_step_5 (by decide) ?_
  refine gsPi (As := [.int (nI k0), .int 1]) (rest := [.ref (A 1)]) ⟨hx, hb, hml, hown, hts⟩ (c_X5_at l E k0 1) (va_cwS 2 hts gX5_step_X5_at rfl rfl rfl (by decide +kernel) ⟨Nat.le_of_ble_eq_true rfl, Nat.le_of_ble_eq_true rfl⟩) hP hK hD hN hS hA rfl hl.1 rfl (Nat.le_of_ble_eq_true rfl) dX5_step_6 ⟨Nat.le_refl _, Nat.le_refl _⟩ (fun H locs hP hD hS => ?_)
  refine gald (x := z (35 + 7 * k0 + 1)) hx hb hK hP 1 rfl (35 + 7 * k0 + 1) (rfl) (by omega) (by decide) rfl dX5_step_9 ?_
  obtain ⟨z_1, ez_1⟩ : ∃ y : Nat → Int32, y = (if (z (35 + 7 * k0 + 1)) ≤ 0 then z else (if (z (35 + 7 * k0 + 0)) < (z 5) then z else (upd (upd (upd z (35 + 7 * k0 + 1) 0) (35 + 7 * k0 + 4) ((z (35 + 7 * k0 + 4)) + 1)) 25 ((z 25) + 1)))) := ⟨_, rfl⟩
  have fz1 : z_1 = st1 k0 z := ez_1
  have h3 : ¬ z_1 3 = 0 := by rw [fz1, st1_lt (by omega) (by omega)]; exact hz.2.2.2.2.2.2.2.1
  have J_10 : ∀ (H : Heap) (locs : List Loc) (ls : Array Slot), va_P E.1 vwCl (wM E A G z_1 a t r h) H → va_D (va_A (wM E A G z a t r h) s.heap.size) (wM E A G z_1 a t r h) → va_S (va_A (wM E A G z a t r h) s.heap.size) s.heap H locs → lv_has ls 2 [(0, .ref (A 0)), (1, .int (nI k0))] → W p l e (gR wsX5_step 1 21) s m ([.ref (A 0), .int (nI k0)] : List Value).toArray below meth c H locs 0 0 (gMQ below E s (wM E A G z a t r h) (wM E A G (step k0 z) a t r h) (none) [.ref (A 0), .int (nI k0)]) (F0 m 68 ls []) := by
    intro H locs ls hP hD hS hl
    refine lv_aload_n hx hb dX5_step_68 rfl (lv_at hl 0 rfl) ?_
    refine va_get (D := E.1) (ci := 5) (v := .ref (A 1)) (C := RX5) (T := TX5) (N := 15) hx hb hts hiX5 hown hK hP 0 rfl rfl 1 (by decide) hf7 (fun _ h9 => h9) rfl dX5_step_69 ?_
    refine lv_iload_n hx hb dX5_step_72 rfl (lv_at hl 1 rfl) ?_
    refine lv_iconst (v := 1) hx hb dX5_step_73 (by decide) ?_
    refine gsPi (As := [.int (nI k0), .int 1]) (rest := [.ref (A 1)]) ⟨hx, hb, hml, hown, hts⟩ (c_X5_at l E k0 1) (va_cwS 2 hts gX5_step_X5_at rfl rfl rfl (by decide +kernel) ⟨Nat.le_of_ble_eq_true rfl, Nat.le_of_ble_eq_true rfl⟩) hP hK hD hN hS hA rfl hl.1 rfl (Nat.le_of_ble_eq_true rfl) dX5_step_74 ⟨Nat.le_refl _, Nat.le_refl _⟩ (fun H locs hP hD hS => ?_)
    refine gald (x := z_1 (35 + 7 * k0 + 1)) hx hb hK hP 1 rfl (35 + 7 * k0 + 1) (rfl) (by omega) (by decide) rfl dX5_step_77 ?_
    obtain ⟨z_2, ez_2⟩ : ∃ y : Nat → Int32, y = (if (z_1 (35 + 7 * k0 + 1)) ≤ 0 then (upd z_1 (35 + 7 * k0 + 0) ((z_1 (35 + 7 * k0 + 0)) - ((z_1 17) / (z_1 3)))) else (upd (upd (upd z_1 (35 + 7 * k0 + 1) ((z_1 (35 + 7 * k0 + 1)) - 1)) (35 + 7 * k0 + 3) ((z_1 (35 + 7 * k0 + 3)) + 1)) (35 + 7 * k0 + 0) ((z_1 (35 + 7 * k0 + 0)) + (((z_1 0) - (z_1 17)) / (z_1 3))))) := ⟨_, rfl⟩
    have fz2 : z_2 = st2 k0 (st1 k0 z) := by rw [← fz1]; exact ez_2
    have J_78 : ∀ (H : Heap) (locs : List Loc) (ls : Array Slot), va_P E.1 vwCl (wM E A G z_2 a t r h) H → va_D (va_A (wM E A G z a t r h) s.heap.size) (wM E A G z_2 a t r h) → va_S (va_A (wM E A G z a t r h) s.heap.size) s.heap H locs → lv_has ls 2 [(0, .ref (A 0)), (1, .int (nI k0))] → W p l e (gR wsX5_step 1 21) s m ([.ref (A 0), .int (nI k0)] : List Value).toArray below meth c H locs 0 0 (gMQ below E s (wM E A G z a t r h) (wM E A G (step k0 z) a t r h) (none) [.ref (A 0), .int (nI k0)]) (F0 m 173 ls []) := by
      intro H locs ls hP hD hS hl
      refine lv_aload_n hx hb dX5_step_173 rfl (lv_at hl 0 rfl) ?_
      refine va_get (D := E.1) (ci := 5) (v := .ref (A 1)) (C := RX5) (T := TX5) (N := 15) hx hb hts hiX5 hown hK hP 0 rfl rfl 1 (by decide) hf7 (fun _ h9 => h9) rfl dX5_step_174 ?_
      refine lv_iload_n hx hb dX5_step_177 rfl (lv_at hl 1 rfl) ?_
      refine lv_iconst (v := 0) hx hb dX5_step_178 (by decide) ?_
      refine gsPi (As := [.int (nI k0), .int 0]) (rest := [.ref (A 1)]) ⟨hx, hb, hml, hown, hts⟩ (c_X5_at l E k0 0) (va_cwS 2 hts gX5_step_X5_at rfl rfl rfl (by decide +kernel) ⟨Nat.le_of_ble_eq_true rfl, Nat.le_of_ble_eq_true rfl⟩) hP hK hD hN hS hA rfl hl.1 rfl (Nat.le_of_ble_eq_true rfl) dX5_step_179 ⟨Nat.le_refl _, Nat.le_refl _⟩ (fun H locs hP hD hS => ?_)
      refine lv_aload_n hx hb dX5_step_182 rfl (lv_at hl 0 rfl) ?_
      refine va_get (D := E.1) (ci := 5) (v := .ref (A 1)) (C := RX5) (T := TX5) (N := 15) hx hb hts hiX5 hown hK hP 0 rfl rfl 1 (by decide) hf7 (fun _ h9 => h9) rfl dX5_step_183 ?_
      refine lv_iload_n hx hb dX5_step_186 rfl (lv_at hl 1 rfl) ?_
      refine lv_iconst (v := 0) hx hb dX5_step_187 (by decide) ?_
      refine gsPi (As := [.int (nI k0), .int 0]) (rest := [.ref (A 1), .int (nI (35 + 7 * k0 + 0)), .ref (A 1)]) ⟨hx, hb, hml, hown, hts⟩ (c_X5_at l E k0 0) (va_cwS 2 hts gX5_step_X5_at rfl rfl rfl (by decide +kernel) ⟨Nat.le_of_ble_eq_true rfl, Nat.le_of_ble_eq_true rfl⟩) hP hK hD hN hS hA rfl hl.1 rfl (Nat.le_of_ble_eq_true rfl) dX5_step_188 ⟨Nat.le_refl _, Nat.le_refl _⟩ (fun H locs hP hD hS => ?_)
      refine gald (x := z_2 (35 + 7 * k0 + 0)) hx hb hK hP 1 rfl (35 + 7 * k0 + 0) (rfl) (by omega) (by decide) rfl dX5_step_191 ?_
      refine lv_if_ge (tgt := 199) hx hb dX5_step_192 (by decide) (fun c_192 => ?_) (fun c_192 => ?_)
      · refine lv_aload_n hx hb dX5_step_199 rfl (lv_at hl 0 rfl) ?_
        refine va_get (D := E.1) (ci := 5) (v := .ref (A 1)) (C := RX5) (T := TX5) (N := 15) hx hb hts hiX5 hown hK hP 0 rfl rfl 1 (by decide) hf7 (fun _ h9 => h9) rfl dX5_step_200 ?_
        refine lv_iload_n hx hb dX5_step_203 rfl (lv_at hl 1 rfl) ?_
        refine lv_iconst (v := 0) hx hb dX5_step_204 (by decide) ?_
        refine gsPi (As := [.int (nI k0), .int 0]) (rest := [.ref (A 1), .int (nI (35 + 7 * k0 + 0)), .ref (A 1)]) ⟨hx, hb, hml, hown, hts⟩ (c_X5_at l E k0 0) (va_cwS 2 hts gX5_step_X5_at rfl rfl rfl (by decide +kernel) ⟨Nat.le_of_ble_eq_true rfl, Nat.le_of_ble_eq_true rfl⟩) hP hK hD hN hS hA rfl hl.1 rfl (Nat.le_of_ble_eq_true rfl) dX5_step_205 ⟨Nat.le_refl _, Nat.le_refl _⟩ (fun H locs hP hD hS => ?_)
        refine gald (x := z_2 (35 + 7 * k0 + 0)) hx hb hK hP 1 rfl (35 + 7 * k0 + 0) (rfl) (by omega) (by decide) rfl dX5_step_208 ?_
        refine gast hx hb hK hP hD hS 1 rfl (35 + 7 * k0 + 0) (rfl) (by omega) (by decide) dX5_step_209 (fun H locs hP hD hS => ?_)
        have hP : va_P E.1 vwCl (wM E A G (upd z_2 (35 + 7 * k0 + 0) (z_2 (35 + 7 * k0 + 0))) a t r h) H := hP
        have hD : va_D _ (wM E A G (upd z_2 (35 + 7 * k0 + 0) (z_2 (35 + 7 * k0 + 0))) a t r h) := hD
        exact gretv hx hb hr hlocks hP hD hS (by simp only [step, st3, ← fz2, if_pos c_192]) dX5_step_210
      · refine lv_iconst (v := 0) hx hb dX5_step_195 (by decide) ?_
        refine lv_goto (tgt := 209) hx hb dX5_step_196 (by decide) ?_
        refine gast hx hb hK hP hD hS 1 rfl (35 + 7 * k0 + 0) (rfl) (by omega) (by decide) dX5_step_209 (fun H locs hP hD hS => ?_)
        have hP : va_P E.1 vwCl (wM E A G (upd z_2 (35 + 7 * k0 + 0) 0) a t r h) H := hP
        have hD : va_D _ (wM E A G (upd z_2 (35 + 7 * k0 + 0) 0) a t r h) := hD
        exact gretv hx hb hr hlocks hP hD hS (by simp only [step, st3, ← fz2, if_neg c_192]) dX5_step_210
    refine lv_if_le (tgt := 146) hx hb dX5_step_78 (by decide) (fun c_78 => ?_) (fun c_78 => ?_)
    · refine lv_aload_n hx hb dX5_step_146 rfl (lv_at hl 0 rfl) ?_
      refine va_get (D := E.1) (ci := 5) (v := .ref (A 1)) (C := RX5) (T := TX5) (N := 15) hx hb hts hiX5 hown hK hP 0 rfl rfl 1 (by decide) hf7 (fun _ h9 => h9) rfl dX5_step_147 ?_
      refine lv_iload_n hx hb dX5_step_150 rfl (lv_at hl 1 rfl) ?_
      refine lv_iconst (v := 0) hx hb dX5_step_151 (by decide) ?_
      refine gsPi (As := [.int (nI k0), .int 0]) (rest := [.ref (A 1)]) ⟨hx, hb, hml, hown, hts⟩ (c_X5_at l E k0 0) (va_cwS 2 hts gX5_step_X5_at rfl rfl rfl (by decide +kernel) ⟨Nat.le_of_ble_eq_true rfl, Nat.le_of_ble_eq_true rfl⟩) hP hK hD hN hS hA rfl hl.1 rfl (Nat.le_of_ble_eq_true rfl) dX5_step_152 ⟨Nat.le_refl _, Nat.le_refl _⟩ (fun H locs hP hD hS => ?_)
      refine lv_dup2_11 hx hb dX5_step_155 rfl rfl ?_
      refine gald (x := z_1 (35 + 7 * k0 + 0)) hx hb hK hP 1 rfl (35 + 7 * k0 + 0) (rfl) (by omega) (by decide) rfl dX5_step_156 ?_
      refine lv_aload_n hx hb dX5_step_157 rfl (lv_at hl 0 rfl) ?_
      refine va_get (D := E.1) (ci := 5) (v := .ref (A 1)) (C := RX5) (T := TX5) (N := 15) hx hb hts hiX5 hown hK hP 0 rfl rfl 1 (by decide) hf7 (fun _ h9 => h9) rfl dX5_step_158 ?_
      refine lv_bipush (v := 17) hx hb dX5_step_161 (by decide) ?_
      refine gald (x := z_1 17) hx hb hK hP 1 rfl 17 (rfl) (by decide) (by decide) rfl dX5_step_163 ?_
      refine lv_aload_n hx hb dX5_step_164 rfl (lv_at hl 0 rfl) ?_
      refine va_get (D := E.1) (ci := 5) (v := .ref (A 1)) (C := RX5) (T := TX5) (N := 15) hx hb hts hiX5 hown hK hP 0 rfl rfl 1 (by decide) hf7 (fun _ h9 => h9) rfl dX5_step_165 ?_
      refine lv_iconst (v := 3) hx hb dX5_step_168 (by decide) ?_
      refine gald (x := z_1 3) hx hb hK hP 1 rfl 3 (rfl) (by decide) (by decide) rfl dX5_step_169 ?_
      refine lv_idiv hx hb dX5_step_170 h3 ?_
      refine lv_isub hx hb dX5_step_171 ?_
      refine gast hx hb hK hP hD hS 1 rfl (35 + 7 * k0 + 0) (rfl) (by omega) (by decide) dX5_step_172 (fun H locs hP hD hS => ?_)
      have hP : va_P E.1 vwCl (wM E A G (upd z_1 (35 + 7 * k0 + 0) ((z_1 (35 + 7 * k0 + 0)) - ((z_1 17) / (z_1 3)))) a t r h) H := hP
      have hD : va_D _ (wM E A G (upd z_1 (35 + 7 * k0 + 0) ((z_1 (35 + 7 * k0 + 0)) - ((z_1 17) / (z_1 3)))) a t r h) := hD
      exact J_78 H locs ls (by rw [ez_2]; simp only [if_pos c_78]; exact hP) (by rw [ez_2]; simp only [if_pos c_78]; exact hD) hS (lv_sub hl [0, 1] rfl)
    · refine lv_aload_n hx hb dX5_step_81 rfl (lv_at hl 0 rfl) ?_
      refine va_get (D := E.1) (ci := 5) (v := .ref (A 1)) (C := RX5) (T := TX5) (N := 15) hx hb hts hiX5 hown hK hP 0 rfl rfl 1 (by decide) hf7 (fun _ h9 => h9) rfl dX5_step_82 ?_
      refine lv_iload_n hx hb dX5_step_85 rfl (lv_at hl 1 rfl) ?_
      refine lv_iconst (v := 1) hx hb dX5_step_86 (by decide) ?_
      refine gsPi (As := [.int (nI k0), .int 1]) (rest := [.ref (A 1)]) ⟨hx, hb, hml, hown, hts⟩ (c_X5_at l E k0 1) (va_cwS 2 hts gX5_step_X5_at rfl rfl rfl (by decide +kernel) ⟨Nat.le_of_ble_eq_true rfl, Nat.le_of_ble_eq_true rfl⟩) hP hK hD hN hS hA rfl hl.1 rfl (Nat.le_of_ble_eq_true rfl) dX5_step_87 ⟨Nat.le_refl _, Nat.le_refl _⟩ (fun H locs hP hD hS => ?_)
      refine lv_dup2_11 hx hb dX5_step_90 rfl rfl ?_
      refine gald (x := z_1 (35 + 7 * k0 + 1)) hx hb hK hP 1 rfl (35 + 7 * k0 + 1) (rfl) (by omega) (by decide) rfl dX5_step_91 ?_
      refine lv_iconst (v := 1) hx hb dX5_step_92 (by decide) ?_
      refine lv_isub hx hb dX5_step_93 ?_
      refine gast hx hb hK hP hD hS 1 rfl (35 + 7 * k0 + 1) (rfl) (by omega) (by decide) dX5_step_94 (fun H locs hP hD hS => ?_)
      have hP : va_P E.1 vwCl (wM E A G (upd z_1 (35 + 7 * k0 + 1) ((z_1 (35 + 7 * k0 + 1)) - 1)) a t r h) H := hP
      have hD : va_D _ (wM E A G (upd z_1 (35 + 7 * k0 + 1) ((z_1 (35 + 7 * k0 + 1)) - 1)) a t r h) := hD
      refine lv_aload_n hx hb dX5_step_95 rfl (lv_at hl 0 rfl) ?_
      refine va_get (D := E.1) (ci := 5) (v := .ref (A 1)) (C := RX5) (T := TX5) (N := 15) hx hb hts hiX5 hown hK hP 0 rfl rfl 1 (by decide) hf7 (fun _ h9 => h9) rfl dX5_step_96 ?_
      refine lv_iload_n hx hb dX5_step_99 rfl (lv_at hl 1 rfl) ?_
      refine lv_iconst (v := 3) hx hb dX5_step_100 (by decide) ?_
      refine gsPi (As := [.int (nI k0), .int 3]) (rest := [.ref (A 1)]) ⟨hx, hb, hml, hown, hts⟩ (c_X5_at l E k0 3) (va_cwS 2 hts gX5_step_X5_at rfl rfl rfl (by decide +kernel) ⟨Nat.le_of_ble_eq_true rfl, Nat.le_of_ble_eq_true rfl⟩) hP hK hD hN hS hA rfl hl.1 rfl (Nat.le_of_ble_eq_true rfl) dX5_step_101 ⟨Nat.le_refl _, Nat.le_refl _⟩ (fun H locs hP hD hS => ?_)
      refine lv_dup2_11 hx hb dX5_step_104 rfl rfl ?_
      refine gald (x := z_1 (35 + 7 * k0 + 3)) hx hb hK hP 1 rfl (35 + 7 * k0 + 3) (rfl) (by omega) (by decide) ((pk_un (by omega)).trans rfl) dX5_step_105 ?_
      refine lv_iconst (v := 1) hx hb dX5_step_106 (by decide) ?_
      refine lv_iadd hx hb dX5_step_107 ?_
      refine gast hx hb hK hP hD hS 1 rfl (35 + 7 * k0 + 3) (rfl) (by omega) (by decide) dX5_step_108 (fun H locs hP hD hS => ?_)
      have hP : va_P E.1 vwCl (wM E A G (upd (upd z_1 (35 + 7 * k0 + 1) ((z_1 (35 + 7 * k0 + 1)) - 1)) (35 + 7 * k0 + 3) ((z_1 (35 + 7 * k0 + 3)) + 1)) a t r h) H := hP
      have hD : va_D _ (wM E A G (upd (upd z_1 (35 + 7 * k0 + 1) ((z_1 (35 + 7 * k0 + 1)) - 1)) (35 + 7 * k0 + 3) ((z_1 (35 + 7 * k0 + 3)) + 1)) a t r h) := hD
      refine lv_aload_n hx hb dX5_step_109 rfl (lv_at hl 0 rfl) ?_
      refine va_get (D := E.1) (ci := 5) (v := .ref (A 1)) (C := RX5) (T := TX5) (N := 15) hx hb hts hiX5 hown hK hP 0 rfl rfl 1 (by decide) hf7 (fun _ h9 => h9) rfl dX5_step_110 ?_
      refine lv_iload_n hx hb dX5_step_113 rfl (lv_at hl 1 rfl) ?_
      refine lv_iconst (v := 0) hx hb dX5_step_114 (by decide) ?_
      refine gsPi (As := [.int (nI k0), .int 0]) (rest := [.ref (A 1)]) ⟨hx, hb, hml, hown, hts⟩ (c_X5_at l E k0 0) (va_cwS 2 hts gX5_step_X5_at rfl rfl rfl (by decide +kernel) ⟨Nat.le_of_ble_eq_true rfl, Nat.le_of_ble_eq_true rfl⟩) hP hK hD hN hS hA rfl hl.1 rfl (Nat.le_of_ble_eq_true rfl) dX5_step_115 ⟨Nat.le_refl _, Nat.le_refl _⟩ (fun H locs hP hD hS => ?_)
      refine lv_dup2_11 hx hb dX5_step_118 rfl rfl ?_
      refine gald (x := z_1 (35 + 7 * k0 + 0)) hx hb hK hP 1 rfl (35 + 7 * k0 + 0) (rfl) (by omega) (by decide) ((pk_un (by omega)).trans ((pk_un (by omega)).trans rfl)) dX5_step_119 ?_
      refine lv_aload_n hx hb dX5_step_120 rfl (lv_at hl 0 rfl) ?_
      refine va_get (D := E.1) (ci := 5) (v := .ref (A 1)) (C := RX5) (T := TX5) (N := 15) hx hb hts hiX5 hown hK hP 0 rfl rfl 1 (by decide) hf7 (fun _ h9 => h9) rfl dX5_step_121 ?_
      refine lv_iconst (v := 0) hx hb dX5_step_124 (by decide) ?_
      refine gald (x := z_1 0) hx hb hK hP 1 rfl 0 (rfl) (by decide) (by decide) ((pk_un (by omega)).trans ((pk_un (by omega)).trans rfl)) dX5_step_125 ?_
      refine lv_aload_n hx hb dX5_step_126 rfl (lv_at hl 0 rfl) ?_
      refine va_get (D := E.1) (ci := 5) (v := .ref (A 1)) (C := RX5) (T := TX5) (N := 15) hx hb hts hiX5 hown hK hP 0 rfl rfl 1 (by decide) hf7 (fun _ h9 => h9) rfl dX5_step_127 ?_
      refine lv_bipush (v := 17) hx hb dX5_step_130 (by decide) ?_
      refine gald (x := z_1 17) hx hb hK hP 1 rfl 17 (rfl) (by decide) (by decide) ((pk_un (by omega)).trans ((pk_un (by omega)).trans rfl)) dX5_step_132 ?_
      refine lv_isub hx hb dX5_step_133 ?_
      refine lv_aload_n hx hb dX5_step_134 rfl (lv_at hl 0 rfl) ?_
      refine va_get (D := E.1) (ci := 5) (v := .ref (A 1)) (C := RX5) (T := TX5) (N := 15) hx hb hts hiX5 hown hK hP 0 rfl rfl 1 (by decide) hf7 (fun _ h9 => h9) rfl dX5_step_135 ?_
      refine lv_iconst (v := 3) hx hb dX5_step_138 (by decide) ?_
      refine gald (x := z_1 3) hx hb hK hP 1 rfl 3 (rfl) (by decide) (by decide) ((pk_un (by omega)).trans ((pk_un (by omega)).trans rfl)) dX5_step_139 ?_
      refine lv_idiv hx hb dX5_step_140 h3 ?_
      refine lv_iadd hx hb dX5_step_141 ?_
      refine gast hx hb hK hP hD hS 1 rfl (35 + 7 * k0 + 0) (rfl) (by omega) (by decide) dX5_step_142 (fun H locs hP hD hS => ?_)
      have hP : va_P E.1 vwCl (wM E A G (upd (upd (upd z_1 (35 + 7 * k0 + 1) ((z_1 (35 + 7 * k0 + 1)) - 1)) (35 + 7 * k0 + 3) ((z_1 (35 + 7 * k0 + 3)) + 1)) (35 + 7 * k0 + 0) ((z_1 (35 + 7 * k0 + 0)) + (((z_1 0) - (z_1 17)) / (z_1 3)))) a t r h) H := hP
      have hD : va_D _ (wM E A G (upd (upd (upd z_1 (35 + 7 * k0 + 1) ((z_1 (35 + 7 * k0 + 1)) - 1)) (35 + 7 * k0 + 3) ((z_1 (35 + 7 * k0 + 3)) + 1)) (35 + 7 * k0 + 0) ((z_1 (35 + 7 * k0 + 0)) + (((z_1 0) - (z_1 17)) / (z_1 3)))) a t r h) := hD
      refine lv_goto (tgt := 173) hx hb dX5_step_143 (by decide) ?_
      exact J_78 H locs ls (by rw [ez_2]; simp only [if_neg c_78]; exact hP) (by rw [ez_2]; simp only [if_neg c_78]; exact hD) hS (lv_sub hl [0, 1] rfl)
  refine lv_if_le (tgt := 68) hx hb dX5_step_10 (by decide) (fun c_10 => ?_) (fun c_10 => ?_)
  · exact J_10 H locs ls (by rw [ez_1]; simp only [if_pos c_10]; exact hP) (by rw [ez_1]; simp only [if_pos c_10]; exact hD) hS (lv_sub hl [0, 1] rfl)
  · refine lv_aload_n hx hb dX5_step_13 rfl (lv_at hl 0 rfl) ?_
    refine va_get (D := E.1) (ci := 5) (v := .ref (A 1)) (C := RX5) (T := TX5) (N := 15) hx hb hts hiX5 hown hK hP 0 rfl rfl 1 (by decide) hf7 (fun _ h9 => h9) rfl dX5_step_14 ?_
    refine lv_iload_n hx hb dX5_step_17 rfl (lv_at hl 1 rfl) ?_
    refine lv_iconst (v := 0) hx hb dX5_step_18 (by decide) ?_
    refine gsPi (As := [.int (nI k0), .int 0]) (rest := [.ref (A 1)]) ⟨hx, hb, hml, hown, hts⟩ (c_X5_at l E k0 0) (va_cwS 2 hts gX5_step_X5_at rfl rfl rfl (by decide +kernel) ⟨Nat.le_of_ble_eq_true rfl, Nat.le_of_ble_eq_true rfl⟩) hP hK hD hN hS hA rfl hl.1 rfl (Nat.le_of_ble_eq_true rfl) dX5_step_19 ⟨Nat.le_refl _, Nat.le_refl _⟩ (fun H locs hP hD hS => ?_)
    refine gald (x := z (35 + 7 * k0 + 0)) hx hb hK hP 1 rfl (35 + 7 * k0 + 0) (rfl) (by omega) (by decide) rfl dX5_step_22 ?_
    refine lv_aload_n hx hb dX5_step_23 rfl (lv_at hl 0 rfl) ?_
    refine va_get (D := E.1) (ci := 5) (v := .ref (A 1)) (C := RX5) (T := TX5) (N := 15) hx hb hts hiX5 hown hK hP 0 rfl rfl 1 (by decide) hf7 (fun _ h9 => h9) rfl dX5_step_24 ?_
    refine lv_iconst (v := 5) hx hb dX5_step_27 (by decide) ?_
    refine gald (x := z 5) hx hb hK hP 1 rfl 5 (rfl) (by decide) (by decide) rfl dX5_step_28 ?_
    obtain ⟨z_3, ez_3⟩ : ∃ y : Nat → Int32, y = (if (z (35 + 7 * k0 + 0)) < (z 5) then z else (upd (upd (upd z (35 + 7 * k0 + 1) 0) (35 + 7 * k0 + 4) ((z (35 + 7 * k0 + 4)) + 1)) 25 ((z 25) + 1))) := ⟨_, rfl⟩
    have J_29 : ∀ (H : Heap) (locs : List Loc) (ls : Array Slot), va_P E.1 vwCl (wM E A G z_3 a t r h) H → va_D (va_A (wM E A G z a t r h) s.heap.size) (wM E A G z_3 a t r h) → va_S (va_A (wM E A G z a t r h) s.heap.size) s.heap H locs → lv_has ls 2 [(0, .ref (A 0)), (1, .int (nI k0))] → W p l e (gR wsX5_step 1 21) s m ([.ref (A 0), .int (nI k0)] : List Value).toArray below meth c H locs 0 0 (gMQ below E s (wM E A G z a t r h) (wM E A G (step k0 z) a t r h) (none) [.ref (A 0), .int (nI k0)]) (F0 m 68 ls []) := by
      intro H locs ls hP hD hS hl
      exact J_10 H locs ls (by rw [ez_1]; simp only [if_neg c_10]; exact hP) (by rw [ez_1]; simp only [if_neg c_10]; exact hD) hS (lv_sub hl [0, 1] rfl)
    refine lv_icmp_lt (tgt := 68) hx hb dX5_step_29 (by decide) (fun c_29 => ?_) (fun c_29 => ?_)
    · exact J_29 H locs ls (by rw [ez_3]; simp only [if_pos c_29]; exact hP) (by rw [ez_3]; simp only [if_pos c_29]; exact hD) hS (lv_sub hl [0, 1] rfl)
    · refine lv_aload_n hx hb dX5_step_32 rfl (lv_at hl 0 rfl) ?_
      refine va_get (D := E.1) (ci := 5) (v := .ref (A 1)) (C := RX5) (T := TX5) (N := 15) hx hb hts hiX5 hown hK hP 0 rfl rfl 1 (by decide) hf7 (fun _ h9 => h9) rfl dX5_step_33 ?_
      refine lv_iload_n hx hb dX5_step_36 rfl (lv_at hl 1 rfl) ?_
      refine lv_iconst (v := 1) hx hb dX5_step_37 (by decide) ?_
      refine gsPi (As := [.int (nI k0), .int 1]) (rest := [.ref (A 1)]) ⟨hx, hb, hml, hown, hts⟩ (c_X5_at l E k0 1) (va_cwS 2 hts gX5_step_X5_at rfl rfl rfl (by decide +kernel) ⟨Nat.le_of_ble_eq_true rfl, Nat.le_of_ble_eq_true rfl⟩) hP hK hD hN hS hA rfl hl.1 rfl (Nat.le_of_ble_eq_true rfl) dX5_step_38 ⟨Nat.le_refl _, Nat.le_refl _⟩ (fun H locs hP hD hS => ?_)
      refine lv_iconst (v := 0) hx hb dX5_step_41 (by decide) ?_
      refine gast hx hb hK hP hD hS 1 rfl (35 + 7 * k0 + 1) (rfl) (by omega) (by decide) dX5_step_42 (fun H locs hP hD hS => ?_)
      have hP : va_P E.1 vwCl (wM E A G (upd z (35 + 7 * k0 + 1) 0) a t r h) H := hP
      have hD : va_D _ (wM E A G (upd z (35 + 7 * k0 + 1) 0) a t r h) := hD
      refine lv_aload_n hx hb dX5_step_43 rfl (lv_at hl 0 rfl) ?_
      refine va_get (D := E.1) (ci := 5) (v := .ref (A 1)) (C := RX5) (T := TX5) (N := 15) hx hb hts hiX5 hown hK hP 0 rfl rfl 1 (by decide) hf7 (fun _ h9 => h9) rfl dX5_step_44 ?_
      refine lv_iload_n hx hb dX5_step_47 rfl (lv_at hl 1 rfl) ?_
      refine lv_iconst (v := 4) hx hb dX5_step_48 (by decide) ?_
      refine gsPi (As := [.int (nI k0), .int 4]) (rest := [.ref (A 1)]) ⟨hx, hb, hml, hown, hts⟩ (c_X5_at l E k0 4) (va_cwS 2 hts gX5_step_X5_at rfl rfl rfl (by decide +kernel) ⟨Nat.le_of_ble_eq_true rfl, Nat.le_of_ble_eq_true rfl⟩) hP hK hD hN hS hA rfl hl.1 rfl (Nat.le_of_ble_eq_true rfl) dX5_step_49 ⟨Nat.le_refl _, Nat.le_refl _⟩ (fun H locs hP hD hS => ?_)
      refine lv_dup2_11 hx hb dX5_step_52 rfl rfl ?_
      refine gald (x := z (35 + 7 * k0 + 4)) hx hb hK hP 1 rfl (35 + 7 * k0 + 4) (rfl) (by omega) (by decide) ((pk_un (by omega)).trans rfl) dX5_step_53 ?_
      refine lv_iconst (v := 1) hx hb dX5_step_54 (by decide) ?_
      refine lv_iadd hx hb dX5_step_55 ?_
      refine gast hx hb hK hP hD hS 1 rfl (35 + 7 * k0 + 4) (rfl) (by omega) (by decide) dX5_step_56 (fun H locs hP hD hS => ?_)
      have hP : va_P E.1 vwCl (wM E A G (upd (upd z (35 + 7 * k0 + 1) 0) (35 + 7 * k0 + 4) ((z (35 + 7 * k0 + 4)) + 1)) a t r h) H := hP
      have hD : va_D _ (wM E A G (upd (upd z (35 + 7 * k0 + 1) 0) (35 + 7 * k0 + 4) ((z (35 + 7 * k0 + 4)) + 1)) a t r h) := hD
      refine lv_aload_n hx hb dX5_step_57 rfl (lv_at hl 0 rfl) ?_
      refine va_get (D := E.1) (ci := 5) (v := .ref (A 1)) (C := RX5) (T := TX5) (N := 15) hx hb hts hiX5 hown hK hP 0 rfl rfl 1 (by decide) hf7 (fun _ h9 => h9) rfl dX5_step_58 ?_
      refine lv_bipush (v := 25) hx hb dX5_step_61 (by decide) ?_
      refine lv_dup2_11 hx hb dX5_step_63 rfl rfl ?_
      refine gald (x := z 25) hx hb hK hP 1 rfl 25 (rfl) (by decide) (by decide) ((pk_un (by omega)).trans ((pk_un (by omega)).trans rfl)) dX5_step_64 ?_
      refine lv_iconst (v := 1) hx hb dX5_step_65 (by decide) ?_
      refine lv_iadd hx hb dX5_step_66 ?_
      refine gast hx hb hK hP hD hS 1 rfl 25 (rfl) (by decide) (by decide) dX5_step_67 (fun H locs hP hD hS => ?_)
      have hP : va_P E.1 vwCl (wM E A G (upd (upd (upd z (35 + 7 * k0 + 1) 0) (35 + 7 * k0 + 4) ((z (35 + 7 * k0 + 4)) + 1)) 25 ((z 25) + 1)) a t r h) H := hP
      have hD : va_D _ (wM E A G (upd (upd (upd z (35 + 7 * k0 + 1) 0) (35 + 7 * k0 + 4) ((z (35 + 7 * k0 + 4)) + 1)) 25 ((z 25) + 1)) a t r h) := hD
      exact J_29 H locs ls (by rw [ez_3]; simp only [if_neg c_29]; exact hP) (by rw [ez_3]; simp only [if_neg c_29]; exact hD) hS (lv_sub hl [0, 1] rfl)

set_option maxHeartbeats 4000000 in
set_option maxRecDepth 100000 in
theorem c_X5_layExtremes (l : Launch) (E : EE) (A : Nat → Nat) (G z a t r : Nat → Int32) (h : Int64) : GM l yX5_layExtremes wsX5_layExtremes 0 0 E (wM E A G z a t r h) [.ref (A 0)] (wM E A (layE G) z a t r h) (none) := by
  intro sz
  refine Met.ofW (cc := cX5_layExtremes) (maxL := 1) (ret := none) (by decide) rfl ?_
  intro p e s m args below meth c s₁ B hml hv
  obtain ⟨rfl, rfl, hP, hK, hD0, hN⟩ := hv
  have hx := B.exec
  have hb := B.bytes
  have hr := B.returns
  have hts := atoms_spec (ws := wsX5_layExtremes) B.pre
  have hown : s.vm.findClass RX5 = some m.cls := findClass_of_methodNamed B.named
  have hlocks := B.notSynchronized
  have hD := hD0.self (sz := s.heap.size)
  have hA : ∀ q : Nat, s.heap.size ≤ q → va_A (wM E A G z a t r h) s.heap.size q := fun q h => Or.inr h
  have hS : va_S (va_A (wM E A G z a t r h) s.heap.size) s.heap s.heap [] := va_S.rf
  have hl := lv_entry ([.ref (A 0)]) (n := 1) (Nat.le_of_ble_eq_true rfl)
  rw [lg_entry_eq]
  generalize (lg_sl ([.ref (A 0)]) ++ List.replicate (1 - (lg_sl ([.ref (A 0)])).length) Slot.unset).toArray = ls at hl ⊢
  have hl : lv_has ls 1 [(0, .ref (A 0))] := hl
  have hf62 := hts (.fieldLink RX5 62 "PhaseConverterModel" "strongest" "I") (by decide +kernel)
  have hf69 := hts (.fieldLink RX5 69 "PhaseConverterModel" "least" "I") (by decide +kernel)
  have hf72 := hts (.fieldLink RX5 72 "PhaseConverterModel" "most" "I") (by decide +kernel)
  have hiX5 : ∀ w ∈ u_ws RX5 TX5 15, w ∈ wsX5_layExtremes := by decide +kernel
  refine lv_aload_n hx hb dX5_layExtremes_0 rfl (lv_at hl 0 rfl) ?_
  refine lv_ldc (own := RX5) (v := 1000000) hx hb hown (hts (.constant RX5 75 (1000000)) (by decide +kernel)) dX5_layExtremes_1 ?_
  refine va_put (D := E.1) (ci := 5) (v := .int 1000000) (ty := .int) (C := RX5) (T := TX5) (N := 15) hx hb hts hiX5 tyX5 tyX5_ok nmX5 hown hK hP hD hS 0 rfl rfl 5 (by decide) hf69 (fun _ h9 => h9) rfl (by decide +kernel) rfl rfl (Nat.le_of_ble_eq_true rfl) dX5_layExtremes_3 (fun H locs hP hD hS => ?_)
  have hP : va_P E.1 vwCl (wM E A (upd G 5 1000000) z a t r h) H := hP
  have hD : va_D _ (wM E A (upd G 5 1000000) z a t r h) := hD
  refine lv_aload_n hx hb dX5_layExtremes_6 rfl (lv_at hl 0 rfl) ?_
  refine lv_iconst (v := (-1)) hx hb dX5_layExtremes_7 (by decide) ?_
  refine va_put (D := E.1) (ci := 5) (v := .int (-1)) (ty := .int) (C := RX5) (T := TX5) (N := 15) hx hb hts hiX5 tyX5 tyX5_ok nmX5 hown hK hP hD hS 0 rfl rfl 6 (by decide) hf72 (fun _ h9 => h9) rfl (by decide +kernel) rfl rfl (Nat.le_of_ble_eq_true rfl) dX5_layExtremes_8 (fun H locs hP hD hS => ?_)
  have hP : va_P E.1 vwCl (wM E A (upd (upd G 5 1000000) 6 (-1)) z a t r h) H := hP
  have hD : va_D _ (wM E A (upd (upd G 5 1000000) 6 (-1)) z a t r h) := hD
  refine lv_aload_n hx hb dX5_layExtremes_11 rfl (lv_at hl 0 rfl) ?_
  refine lv_iconst (v := 0) hx hb dX5_layExtremes_12 (by decide) ?_
  refine va_put (D := E.1) (ci := 5) (v := .int 0) (ty := .int) (C := RX5) (T := TX5) (N := 15) hx hb hts hiX5 tyX5 tyX5_ok nmX5 hown hK hP hD hS 0 rfl rfl 7 (by decide) hf62 (fun _ h9 => h9) rfl (by decide +kernel) rfl rfl (Nat.le_of_ble_eq_true rfl) dX5_layExtremes_13 (fun H locs hP hD hS => ?_)
  have hP : va_P E.1 vwCl (wM E A (upd (upd (upd G 5 1000000) 6 (-1)) 7 0) z a t r h) H := hP
  have hD : va_D _ (wM E A (upd (upd (upd G 5 1000000) 6 (-1)) 7 0) z a t r h) := hD
  exact gretv hx hb hr hlocks hP hD hS (rfl) dX5_layExtremes_16
end
section
theorem zz_last : True := trivial
end
