section
-- ===== PART A: goes FIRST, ahead of the names: the tables' words, and 'selects' of the private methods out of them =====
/-- a private method of a class that the tables say can be made, by its rows of tables_1 -/
def lw_okq (q : MethodName × Nat) : Prop := (q.1.cls ≠ "java/lang/invoke/MethodHandle" ∧ q.1.cls ≠ "java/lang/invoke/VarHandle") ∧ Cond.instantiable q.1.cls q.2 ∈ tables_1 ∧ Cond.privateMethod q.1 ∈ tables_1 ∧ Cond.instanceMethod q.1 ∈ tables_1
theorem lw_p0 : lw_okq (⟨"java/lang/Throwable", "fillInStackTrace", "(I)Ljava/lang/Throwable;"⟩, 6) := ⟨⟨by decide +kernel, by decide +kernel⟩, List.mem_of_getElem? (i := 154) (by decide +kernel), List.mem_of_getElem? (i := 152) (by decide +kernel), List.mem_of_getElem? (i := 153) (by decide +kernel)⟩
theorem lw_p1 : lw_okq (⟨"DockyardSlots", "appointmentOrThrow", "(I)LDockyardSlots$Appointment;"⟩, 13) := ⟨⟨by decide +kernel, by decide +kernel⟩, List.mem_of_getElem? (i := 20) (by decide +kernel), List.mem_of_getElem? (i := 351) (by decide +kernel), List.mem_of_getElem? (i := 352) (by decide +kernel)⟩
theorem lw_p2 : lw_okq (⟨"DockyardSlots", "laneOrThrow", "(I)LDockyardSlots$Lane;"⟩, 13) := ⟨⟨by decide +kernel, by decide +kernel⟩, List.mem_of_getElem? (i := 20) (by decide +kernel), List.mem_of_getElem? (i := 371) (by decide +kernel), List.mem_of_getElem? (i := 372) (by decide +kernel)⟩
theorem lw_p3 : lw_okq (⟨"DockyardSlots", "punctualityOf", "(LDockyardSlots$Appointment;)C"⟩, 13) := ⟨⟨by decide +kernel, by decide +kernel⟩, List.mem_of_getElem? (i := 20) (by decide +kernel), List.mem_of_getElem? (i := 423) (by decide +kernel), List.mem_of_getElem? (i := 424) (by decide +kernel)⟩
theorem lw_p4 : lw_okq (⟨"DockyardSlots", "arrivedOrThrow", "(I)LDockyardSlots$Appointment;"⟩, 13) := ⟨⟨by decide +kernel, by decide +kernel⟩, List.mem_of_getElem? (i := 20) (by decide +kernel), List.mem_of_getElem? (i := 441) (by decide +kernel), List.mem_of_getElem? (i := 442) (by decide +kernel)⟩
theorem lw_p5 : lw_okq (⟨"DockyardSlots", "doorAt", "(I)LDockyardSlots$Door;"⟩, 13) := ⟨⟨by decide +kernel, by decide +kernel⟩, List.mem_of_getElem? (i := 20) (by decide +kernel), List.mem_of_getElem? (i := 493) (by decide +kernel), List.mem_of_getElem? (i := 494) (by decide +kernel)⟩
theorem lw_p6 : lw_okq (⟨"DockyardSlots", "chargeInSteps", "(LDockyardSlots$Appointment;)I"⟩, 13) := ⟨⟨by decide +kernel, by decide +kernel⟩, List.mem_of_getElem? (i := 20) (by decide +kernel), List.mem_of_getElem? (i := 516) (by decide +kernel), List.mem_of_getElem? (i := 517) (by decide +kernel)⟩
theorem lw_p7 : lw_okq (⟨"DockyardSlots", "waitingHours", "(LDockyardSlots$Appointment;)I"⟩, 13) := ⟨⟨by decide +kernel, by decide +kernel⟩, List.mem_of_getElem? (i := 20) (by decide +kernel), List.mem_of_getElem? (i := 520) (by decide +kernel), List.mem_of_getElem? (i := 521) (by decide +kernel)⟩
theorem lw_p8 : lw_okq (⟨"DockyardSlots", "rateOfHour", "(I)I"⟩, 13) := ⟨⟨by decide +kernel, by decide +kernel⟩, List.mem_of_getElem? (i := 20) (by decide +kernel), List.mem_of_getElem? (i := 622) (by decide +kernel), List.mem_of_getElem? (i := 623) (by decide +kernel)⟩
theorem lw_p9 : lw_okq (⟨"DockyardSlotsModel", "fails", "(I)Z"⟩, 25) := ⟨⟨by decide +kernel, by decide +kernel⟩, List.mem_of_getElem? (i := 658) (by decide +kernel), List.mem_of_getElem? (i := 754) (by decide +kernel), List.mem_of_getElem? (i := 755) (by decide +kernel)⟩
theorem lw_p10 : lw_okq (⟨"DockyardSlotsModel", "isNone", "(I)Z"⟩, 25) := ⟨⟨by decide +kernel, by decide +kernel⟩, List.mem_of_getElem? (i := 658) (by decide +kernel), List.mem_of_getElem? (i := 778) (by decide +kernel), List.mem_of_getElem? (i := 779) (by decide +kernel)⟩
theorem lw_p11 : lw_okq (⟨"DockyardSlotsModel", "isNoLane", "(I)Z"⟩, 25) := ⟨⟨by decide +kernel, by decide +kernel⟩, List.mem_of_getElem? (i := 658) (by decide +kernel), List.mem_of_getElem? (i := 782) (by decide +kernel), List.mem_of_getElem? (i := 783) (by decide +kernel)⟩
theorem lw_p12 : lw_okq (⟨"DockyardSlotsModel", "inLanes", "()I"⟩, 25) := ⟨⟨by decide +kernel, by decide +kernel⟩, List.mem_of_getElem? (i := 658) (by decide +kernel), List.mem_of_getElem? (i := 786) (by decide +kernel), List.mem_of_getElem? (i := 787) (by decide +kernel)⟩
theorem lw_p13 : lw_okq (⟨"DockyardSlotsModel", "canCome", "(II)Z"⟩, 25) := ⟨⟨by decide +kernel, by decide +kernel⟩, List.mem_of_getElem? (i := 658) (by decide +kernel), List.mem_of_getElem? (i := 790) (by decide +kernel), List.mem_of_getElem? (i := 791) (by decide +kernel)⟩
theorem lw_p14 : lw_okq (⟨"DockyardSlotsModel", "comes", "(II)V"⟩, 25) := ⟨⟨by decide +kernel, by decide +kernel⟩, List.mem_of_getElem? (i := 658) (by decide +kernel), List.mem_of_getElem? (i := 794) (by decide +kernel), List.mem_of_getElem? (i := 795) (by decide +kernel)⟩
theorem lw_p15 : lw_okq (⟨"DockyardSlotsModel", "punctual", "(I)C"⟩, 25) := ⟨⟨by decide +kernel, by decide +kernel⟩, List.mem_of_getElem? (i := 658) (by decide +kernel), List.mem_of_getElem? (i := 798) (by decide +kernel), List.mem_of_getElem? (i := 799) (by decide +kernel)⟩
def lw_privs_1 : List (MethodName × Nat) := [(⟨"java/lang/Throwable", "fillInStackTrace", "(I)Ljava/lang/Throwable;"⟩, 6), (⟨"DockyardSlots", "appointmentOrThrow", "(I)LDockyardSlots$Appointment;"⟩, 13), (⟨"DockyardSlots", "laneOrThrow", "(I)LDockyardSlots$Lane;"⟩, 13), (⟨"DockyardSlots", "punctualityOf", "(LDockyardSlots$Appointment;)C"⟩, 13), (⟨"DockyardSlots", "arrivedOrThrow", "(I)LDockyardSlots$Appointment;"⟩, 13), (⟨"DockyardSlots", "doorAt", "(I)LDockyardSlots$Door;"⟩, 13), (⟨"DockyardSlots", "chargeInSteps", "(LDockyardSlots$Appointment;)I"⟩, 13), (⟨"DockyardSlots", "waitingHours", "(LDockyardSlots$Appointment;)I"⟩, 13), (⟨"DockyardSlots", "rateOfHour", "(I)I"⟩, 13), (⟨"DockyardSlotsModel", "fails", "(I)Z"⟩, 25), (⟨"DockyardSlotsModel", "isNone", "(I)Z"⟩, 25), (⟨"DockyardSlotsModel", "isNoLane", "(I)Z"⟩, 25), (⟨"DockyardSlotsModel", "inLanes", "()I"⟩, 25), (⟨"DockyardSlotsModel", "canCome", "(II)Z"⟩, 25), (⟨"DockyardSlotsModel", "comes", "(II)V"⟩, 25), (⟨"DockyardSlotsModel", "punctual", "(I)C"⟩, 25)]
theorem lw_r1 : ∀ q ∈ lw_privs_1, lw_okq q := List.forall_mem_cons.mpr ⟨lw_p0, List.forall_mem_cons.mpr ⟨lw_p1, List.forall_mem_cons.mpr ⟨lw_p2, List.forall_mem_cons.mpr ⟨lw_p3, List.forall_mem_cons.mpr ⟨lw_p4, List.forall_mem_cons.mpr ⟨lw_p5, List.forall_mem_cons.mpr ⟨lw_p6, List.forall_mem_cons.mpr ⟨lw_p7, List.forall_mem_cons.mpr ⟨lw_p8, List.forall_mem_cons.mpr ⟨lw_p9, List.forall_mem_cons.mpr ⟨lw_p10, List.forall_mem_cons.mpr ⟨lw_p11, List.forall_mem_cons.mpr ⟨lw_p12, List.forall_mem_cons.mpr ⟨lw_p13, List.forall_mem_cons.mpr ⟨lw_p14, List.forall_mem_cons.mpr ⟨lw_p15, fun _ h => absurd h List.not_mem_nil⟩⟩⟩⟩⟩⟩⟩⟩⟩⟩⟩⟩⟩⟩⟩⟩
theorem lw_p16 : lw_okq (⟨"DockyardSlotsModel", "hasNotCome", "(I)Z"⟩, 25) := ⟨⟨by decide +kernel, by decide +kernel⟩, List.mem_of_getElem? (i := 658) (by decide +kernel), List.mem_of_getElem? (i := 810) (by decide +kernel), List.mem_of_getElem? (i := 811) (by decide +kernel)⟩
theorem lw_p17 : lw_okq (⟨"DockyardSlotsModel", "isReached", "(I)Z"⟩, 25) := ⟨⟨by decide +kernel, by decide +kernel⟩, List.mem_of_getElem? (i := 658) (by decide +kernel), List.mem_of_getElem? (i := 822) (by decide +kernel), List.mem_of_getElem? (i := 823) (by decide +kernel)⟩
theorem lw_p18 : lw_okq (⟨"DockyardSlotsModel", "slotOf", "(I)I"⟩, 25) := ⟨⟨by decide +kernel, by decide +kernel⟩, List.mem_of_getElem? (i := 658) (by decide +kernel), List.mem_of_getElem? (i := 826) (by decide +kernel), List.mem_of_getElem? (i := 827) (by decide +kernel)⟩
theorem lw_p19 : lw_okq (⟨"DockyardSlotsModel", "ahead", "(I)I"⟩, 25) := ⟨⟨by decide +kernel, by decide +kernel⟩, List.mem_of_getElem? (i := 658) (by decide +kernel), List.mem_of_getElem? (i := 830) (by decide +kernel), List.mem_of_getElem? (i := 831) (by decide +kernel)⟩
theorem lw_p20 : lw_okq (⟨"DockyardSlotsModel", "canServe", "(II)Z"⟩, 25) := ⟨⟨by decide +kernel, by decide +kernel⟩, List.mem_of_getElem? (i := 658) (by decide +kernel), List.mem_of_getElem? (i := 838) (by decide +kernel), List.mem_of_getElem? (i := 839) (by decide +kernel)⟩
theorem lw_p21 : lw_okq (⟨"DockyardSlotsModel", "costs", "(I)I"⟩, 25) := ⟨⟨by decide +kernel, by decide +kernel⟩, List.mem_of_getElem? (i := 658) (by decide +kernel), List.mem_of_getElem? (i := 846) (by decide +kernel), List.mem_of_getElem? (i := 847) (by decide +kernel)⟩
theorem lw_p22 : lw_okq (⟨"DockyardSlotsModel", "waits", "(I)I"⟩, 25) := ⟨⟨by decide +kernel, by decide +kernel⟩, List.mem_of_getElem? (i := 658) (by decide +kernel), List.mem_of_getElem? (i := 850) (by decide +kernel), List.mem_of_getElem? (i := 851) (by decide +kernel)⟩
theorem lw_p23 : lw_okq (⟨"DockyardSlotsModel", "isElsewhere", "(I)Z"⟩, 25) := ⟨⟨by decide +kernel, by decide +kernel⟩, List.mem_of_getElem? (i := 658) (by decide +kernel), List.mem_of_getElem? (i := 858) (by decide +kernel), List.mem_of_getElem? (i := 859) (by decide +kernel)⟩
theorem lw_p24 : lw_okq (⟨"DockyardSlotsModel", "fewest", "(I)I"⟩, 25) := ⟨⟨by decide +kernel, by decide +kernel⟩, List.mem_of_getElem? (i := 658) (by decide +kernel), List.mem_of_getElem? (i := 878) (by decide +kernel), List.mem_of_getElem? (i := 879) (by decide +kernel)⟩
theorem lw_p25 : lw_okq (⟨"DockyardSlotsModel", "isReachedWith", "(II)Z"⟩, 25) := ⟨⟨by decide +kernel, by decide +kernel⟩, List.mem_of_getElem? (i := 658) (by decide +kernel), List.mem_of_getElem? (i := 882) (by decide +kernel), List.mem_of_getElem? (i := 883) (by decide +kernel)⟩
theorem lw_p26 : lw_okq (⟨"DockyardSlotsModel", "isReachedBehind", "(IIII)Z"⟩, 25) := ⟨⟨by decide +kernel, by decide +kernel⟩, List.mem_of_getElem? (i := 658) (by decide +kernel), List.mem_of_getElem? (i := 886) (by decide +kernel), List.mem_of_getElem? (i := 887) (by decide +kernel)⟩
theorem lw_p27 : lw_okq (⟨"DockyardSlotsModel", "tells", "(I)I"⟩, 25) := ⟨⟨by decide +kernel, by decide +kernel⟩, List.mem_of_getElem? (i := 658) (by decide +kernel), List.mem_of_getElem? (i := 902) (by decide +kernel), List.mem_of_getElem? (i := 903) (by decide +kernel)⟩
def lw_privs_2 : List (MethodName × Nat) := [(⟨"DockyardSlotsModel", "hasNotCome", "(I)Z"⟩, 25), (⟨"DockyardSlotsModel", "isReached", "(I)Z"⟩, 25), (⟨"DockyardSlotsModel", "slotOf", "(I)I"⟩, 25), (⟨"DockyardSlotsModel", "ahead", "(I)I"⟩, 25), (⟨"DockyardSlotsModel", "canServe", "(II)Z"⟩, 25), (⟨"DockyardSlotsModel", "costs", "(I)I"⟩, 25), (⟨"DockyardSlotsModel", "waits", "(I)I"⟩, 25), (⟨"DockyardSlotsModel", "isElsewhere", "(I)Z"⟩, 25), (⟨"DockyardSlotsModel", "fewest", "(I)I"⟩, 25), (⟨"DockyardSlotsModel", "isReachedWith", "(II)Z"⟩, 25), (⟨"DockyardSlotsModel", "isReachedBehind", "(IIII)Z"⟩, 25), (⟨"DockyardSlotsModel", "tells", "(I)I"⟩, 25)]
theorem lw_r2 : ∀ q ∈ lw_privs_2, lw_okq q := List.forall_mem_cons.mpr ⟨lw_p16, List.forall_mem_cons.mpr ⟨lw_p17, List.forall_mem_cons.mpr ⟨lw_p18, List.forall_mem_cons.mpr ⟨lw_p19, List.forall_mem_cons.mpr ⟨lw_p20, List.forall_mem_cons.mpr ⟨lw_p21, List.forall_mem_cons.mpr ⟨lw_p22, List.forall_mem_cons.mpr ⟨lw_p23, List.forall_mem_cons.mpr ⟨lw_p24, List.forall_mem_cons.mpr ⟨lw_p25, List.forall_mem_cons.mpr ⟨lw_p26, List.forall_mem_cons.mpr ⟨lw_p27, fun _ h => absurd h List.not_mem_nil⟩⟩⟩⟩⟩⟩⟩⟩⟩⟩⟩⟩
def lw_privs : List (MethodName × Nat) := lw_privs_1 ++ (lw_privs_2)
def lw_tbl : List Cond := k2_sels lw_privs ++ tables_1
theorem lw_privs_ok : ∀ q ∈ lw_privs, lw_okq q := by
  show ∀ q ∈ lw_privs_1 ++ (lw_privs_2), lw_okq q
  exact List.forall_mem_append.mpr ⟨lw_r1, lw_r2⟩
/-- the streams that the claim lets the run draw from -/
abbrev lw_cs : List Choice := [Jvm.Choice.named "NaN.bits"]
theorem lw_bits : nanBits ∈ lw_cs := by first | decide | exact List.mem_cons_self | simp [lw_cs, nanBits]
-- ===== end of PART A; then your names; then what follows =====
/-! ===== BEGIN words of one list among another's, by their places ===== -/
theorem goodIn_r {big : List Cond} (ws : List Cond) (ps : List Nat) (hp : ws = ps.filterMap (fun i => big[i]?)) (h : ws.all goodWord = true) : GoodIn big ws := by
  intro w hw
  have h1 := List.all_eq_true.mp h w hw
  rw [hp] at hw
  obtain ⟨i, -, hi⟩ := List.mem_filterMap.mp hw
  have hm : w ∈ big := by first | exact List.mem_of_getElem? hi | exact List.getElem?_mem hi
  exact ⟨hm, good_of_word h1⟩
theorem goodIn_app {big a b : List Cond} (ha : GoodIn big a) (hb : GoodIn big b) : GoodIn big (a ++ b) := fun w h => (List.mem_append.mp h).elim (ha w) (hb w)
theorem goodIn_ca {big a b : List Cond} {c : Cond} (ha : GoodIn big (c :: a)) (hb : GoodIn big b) : GoodIn big (c :: (a ++ b)) := fun w h => (List.mem_cons.mp h).elim (fun e => ha w (List.mem_cons.mpr (Or.inl e))) (fun h => (List.mem_append.mp h).elim (fun h => ha w (List.mem_cons.mpr (Or.inr h))) (hb w))
theorem goodIn_sub {big ws : List Cond} (hm : ∀ w ∈ ws, w ∈ big) (h : ws.all goodWord = true) : GoodIn big ws := fun w hw => ⟨hm w hw, good_of_word (List.all_eq_true.mp h w hw)⟩
/-! ===== END ===== -/

/-! ===== BEGIN exceptions that leave a method, and their catching by the caller (launches without stack traces) ===== -/
section VXA
/-! The laws vx_back, vx_callV, vx_callS, vx_callSW, vx_throw0, vx_throwS follow proofs of the library, with one case more: JvmDerived/Free/Laws.lean (Back.of_free), Shelf42/LK1.lean (callV, callS), Shelf/KitTraced.lean (throwNew0V, throwNewS). -/
/-- where a method has thrown q: the class by its name, the cell, what was written, the world -/
def vx_T (XC : String → State → State → Prop) (st : State) (q : Addr) (t : State) (mc ms : Nat) (free : Addr → Prop) : Prop :=
  ∃ (E : String) (ce : Cell) (L : List Loc), XC E st t ∧ t.heap[q]? = some ce ∧ ce.vm = .none ∧ st.vm.findClass E = some ce.cls ∧ st.WarmedH t.vm ∧ st.sameButNew ({ t with vm := st.vm } : State) L mc ms ∧ ∀ z ∈ L, free z.base
def vx_Q (Qc : Array Value → State → Outcome → State → Prop) (XC : String → State → State → Prop) (mc ms : Nat) (free : Addr → Prop) : Array Value → State → Outcome → State → Prop := fun a st o t =>
  (Qc a st o t ∧ ∃ L, FrameEnd st o t L mc ms ∧ ∀ q ∈ L, free q.base) ∨ ∃ q, o = .threw q ∧ vx_T XC st q t mc ms free
/-- a callee that returns or throws -/
def vx_Met (l : Launch) (y : MethodName) (ws : List Cond) (rm : Room) (Pc : Array Value → State → Prop) (Qc : Array Value → State → Outcome → State → Prop) (XC : String → State → State → Prop) (mc ms : Nat) (free : Addr → Prop) : Prop :=
  MetFree l y (headSpec ws rm) Pc (fun _ _ _ _ _ => True) (vx_Q Qc XC mc ms free)
def vx_Post (XC : String → State → State → Prop) (mc ms : Nat) (free : Addr → Prop) : Pt → Array Value → Addr → Pt → Prop := fun A a q B =>
  ∃ (g : JFrame) (mk : MethodId) (t : State) (L : List Loc) (E : String) (ce : Cell), B.U.heap = t.heap ∧ B.U.vm = t.vm ∧ XC E (A.U.calling g mk a) t ∧ t.heap[q]? = some ce ∧ ce.vm = .none ∧ A.U.vm.findClass E = some ce.cls ∧ B.locs = A.locs ++ L ∧ (∀ z ∈ L, free z.base) ∧ B.cells = A.cells + mc ∧ B.slots = A.slots + ms
def vx_Back (l : Launch) (R : Room) (p : Program) (e : Env) (below : List Frame) (s : State) (sargs : Array Value) (y : MethodName) (len W9 : Nat)
    (Pre : Pt → Array Value → Prop) (Post : Pt → Array Value → Option Value → Pt → Prop) (PostX : Pt → Array Value → Addr → Pt → Prop) : Prop :=
  ∀ (m : MethodId) (meth : Method) (c : Code) (A : Pt) (g : JFrame) (ig : Instr) (mk : MethodId) (a : Array Value),
    Stand p l e R s m sargs below meth c A.U A.locs A.cells A.slots → g.method = m → g.locals.size = c.maxLocals → decode c.code g.pc = .ok (ig, len) →
    2 * g.monitorRoom + (g.stack.map fun v => v.category).sum ≤ W9 → A.U.methodNamed? y = some mk → Pre A a →
    (∃ (v : Option Value) (B : Pt), Stand p l e R s m sargs below meth c B.U B.locs B.cells B.slots ∧ Post A a v B ∧
      Steps p.tables e below (doInvoke e (A.U.setTop g) [] mk a).1 (B.U.setTop { g with pc := g.pc + len, stack := v.toList ++ g.stack })) ∨
    (∃ (q : Addr) (B : Pt), Stand p l e R s m sargs below meth c B.U B.locs B.cells B.slots ∧ PostX A a q B ∧
      Steps p.tables e below (doInvoke e (A.U.setTop g) [] mk a).1 ((B.U.setTop g).pushFrame (.throwing q)))
section Payer
variable {l : Launch} {R : Room} {p : Program} {e : Env} {below : List Frame} {s : State} {sargs : Array Value} {y : MethodName} {len W9 : Nat}
theorem vx_back {ws : List Cond} {rm : Room} {Pc : Array Value → State → Prop} {Qc : Array Value → State → Outcome → State → Prop} {XC : String → State → State → Prop} {mc ms : Nat} {free : Addr → Prop} {bytes : ByteArray} {maxL : Nat} {ret : Option FieldType}
    (hM : vx_Met l y ws rm Pc Qc XC mc ms free) (hblind : FrameBlind Pc) (hrc : rm.cells = mc) (hrs : rm.slots = ms)
    (hframes : rm.frames + 1 ≤ R.frames) (hlocals : W9 + (maxL + 11) + rm.locals ≤ R.locals)
    (hws : ∀ w ∈ ws, ∀ a' U, s.WarmedH U.vm → w.before a' U = true) (hcode : Cond.code y bytes maxL ret ∈ ws) (hinit : ∀ a' U, s.WarmedH U.vm → (Cond.initialized y.cls).before a' U = true) :
    vx_Back l R p e below s sargs y len W9 (PreOf R mc ms Pc) (PostOf Qc mc ms free) (vx_Post XC mc ms free) := by
  intro m meth c A g ig mk a X hg hsize hdg hW hn hp
  have h1 : (headSpec ws rm).pre.before a A.U = true := atoms_intro fun w hw => hws w hw _ _ X.warmed
  have h2 : (Cond.code y bytes maxL ret).before a A.U = true := hws _ hcode _ _ X.warmed
  have h3 : (Cond.initialized y.cls).before a A.U = true := hinit _ _ X.warmed
  have h4 : A.cells + (headSpec ws rm).room.cells ≤ R.cells := by rw [show (headSpec ws rm).room.cells = mc from hrc]; exact hp.1
  have h5 : A.slots + (headSpec ws rm).room.slots ≤ R.slots := by rw [show (headSpec ws rm).room.slots = ms from hrs]; exact hp.2.1
  have hPc : Pc a (A.U.calling g mk a) := hblind _ _ _ _ hp.2.2
  obtain ⟨U, Ls, c0, s0⟩ := A
  dsimp only [Pt.U, Pt.locs, Pt.cells, Pt.slots] at h1 h2 h3 h4 h5 X hn hPc ⊢
  obtain ⟨methY, cY, hmY, hcY, -, hlY, -, -, -, -⟩ := Cond.code_spec hn h2
  obtain ⟨kY, hkY, -⟩ := className_of_methodNamed hn
  have hinitY : kY.init = .initialized := Cond.initialized_spec (findClass_of_methodNamed hn) hkY h3
  have h : At U g.method c below := by rw [hg]; exact X.here
  have hlocals9 : W9 + (maxL + 11) + (headSpec ws rm).room.locals ≤ R.locals := hlocals
  have happ : (headSpec ws rm).appliesLoose y e.platform (U.calling g mk a) = true :=
    Spec.appliesLoose_calling (g := g) h hdg hn hkY hinitY
      (X.room_calling (g := g) (R' := (headSpec ws rm).room) hsize hmY hcY hframes (by rw [hlY]; omega) h4 h5) h1
  obtain ⟨mid, hmid⟩ := h.above
  have hfr : (U.setTop g).frames = (.java g :: mid) ++ below := by rw [State.frames_setTop' g h.top, hmid]; rfl
  obtain ⟨o, s₂, hsteps, -, hend, hq⟩ := Steps.callFree hM p X.admits X.cas X.clock (acts := []) hfr happ hPc trivial
  have hq' : vx_Q Qc XC mc ms free a (U.calling g mk a) o s₂ := hq
  rw [State.frames_setTop' g h.top] at hend
  obtain ⟨g₀, hg0⟩ := Option.isSome_iff_exists.mp h.top
  obtain ⟨r, hr⟩ := State.topJava?_eq_some.mp hg0
  have hr' : (({ U with heap := s₂.heap, slotsUsed := s₂.slotsUsed } : State).setVm s₂.vm).frames = .java g₀ :: r := hr
  rcases hq' with ⟨hqc, L, hfe, hL⟩ | ⟨q, rfl, E, ce, L, hx, hce, hcv, hcl, hW₂, hsm, hL⟩
  · obtain ⟨⟨v, rfl⟩, hW₂, e2, q2, q3, q4, q5, q6⟩ := id hfe
    have e3 : s₂ = ({ (U.calling g mk a).setFrames s₂.frames with heap := s₂.heap, slotsUsed := s₂.slotsUsed } : State).setVm s₂.vm := by
      have : s₂ = ({ s₂ with vm := (U.calling g mk a).vm } : State).setVm s₂.vm := rfl
      rw [e2] at this
      exact this
    obtain ⟨c₂, i₂, len₂, hc₂, hd₂, hf₂⟩ := hend
    have hW' : U.WarmedH s₂.vm := hW₂
    have hcc : c₂ = c := by
      have h1 : s₂.code? g.method = U.code? g.method := by
        rw [State.code?_eq, State.code?_eq, hW'.alike.method?]
      exact Option.some.inj (hc₂.symm.trans (h1.trans h.code))
    subst hcc
    have hlen : len₂ = len := by rw [hdg] at hd₂; cases hd₂; rfl
    subst hlen
    have hs₂ : s₂ = (({ U with heap := s₂.heap, slotsUsed := s₂.slotsUsed } : State).setVm s₂.vm).setTop { g with pc := g.pc + len₂, stack := v.toList ++ g.stack } := by
      refine e3.trans ?_
      rw [hf₂, State.calling_eq h.top, State.setFrames_setFrames, State.setTop_of_frames _ hr', hr]
      rfl
    have hsame : U.sameButNew ({ U with heap := s₂.heap, slotsUsed := s₂.slotsUsed } : State) L mc ms := by
      refine ⟨?_, q2, q3, q4, q5, q6⟩
      obtain ⟨t, ht, -⟩ := State.frames_cons hr
      show ({ U with heap := s₂.heap, slotsUsed := s₂.slotsUsed } : State) = { U.setFrames U.frames with heap := s₂.heap, slotsUsed := s₂.slotsUsed }
      rw [State.setFrames_self ht]
    subst hg
    refine Or.inl ⟨v, ⟨(({ U with heap := s₂.heap, slotsUsed := s₂.slotsUsed } : State).setVm s₂.vm), Ls ++ L, c0 + mc, s0 + ms⟩,
      ⟨X.admits, X.cas, X.clock, X.frames, X.room, X.hears, X.method, X.code, (X.here.setHeapUsed s₂.heap s₂.slotsUsed).setVm hW'.alike, X.tail, State.WarmedH.trans X.warmed hW', X.limits, X.bytes, X.same.trans (hsame.setVm s.vm)⟩,
      ⟨g, mk, s₂, L, rfl, rfl, hqc, rfl, hL, rfl, rfl⟩, ?_⟩
    show Steps p.tables e below _ ((({ U with heap := s₂.heap, slotsUsed := s₂.slotsUsed } : State).setVm s₂.vm).setTop { g with pc := g.pc + len₂, stack := v.toList ++ g.stack })
    rw [← hs₂]
    exact hsteps
  · obtain ⟨e2, q2, q3, q4, q5, q6⟩ := id hsm
    have e3 : s₂ = ({ (U.calling g mk a).setFrames s₂.frames with heap := s₂.heap, slotsUsed := s₂.slotsUsed } : State).setVm s₂.vm := by
      have : s₂ = ({ s₂ with vm := (U.calling g mk a).vm } : State).setVm s₂.vm := rfl
      rw [e2] at this
      exact this
    have hf₂ : s₂.frames = .throwing q :: .java g :: U.frames.tail := hend
    have hW' : U.WarmedH s₂.vm := hW₂
    have hs₂ : s₂ = ((({ U with heap := s₂.heap, slotsUsed := s₂.slotsUsed } : State).setVm s₂.vm).setTop g).pushFrame (.throwing q) := by
      refine e3.trans ?_
      rw [hf₂, State.calling_eq h.top, State.setFrames_setFrames, State.pushFrame, State.frames_setTop _ hr', State.setTop_of_frames _ hr', State.setFrames_setFrames, hr]
      rfl
    have hsame : U.sameButNew ({ U with heap := s₂.heap, slotsUsed := s₂.slotsUsed } : State) L mc ms := by
      refine ⟨?_, q2, q3, q4, q5, q6⟩
      obtain ⟨t, ht, -⟩ := State.frames_cons hr
      show ({ U with heap := s₂.heap, slotsUsed := s₂.slotsUsed } : State) = { U.setFrames U.frames with heap := s₂.heap, slotsUsed := s₂.slotsUsed }
      rw [State.setFrames_self ht]
    subst hg
    refine Or.inr ⟨q, ⟨(({ U with heap := s₂.heap, slotsUsed := s₂.slotsUsed } : State).setVm s₂.vm), Ls ++ L, c0 + mc, s0 + ms⟩,
      ⟨X.admits, X.cas, X.clock, X.frames, X.room, X.hears, X.method, X.code, (X.here.setHeapUsed s₂.heap s₂.slotsUsed).setVm hW'.alike, X.tail, State.WarmedH.trans X.warmed hW', X.limits, X.bytes, X.same.trans (hsame.setVm s.vm)⟩,
      ⟨g, mk, s₂, L, E, ce, rfl, rfl, hx, hce, hcv, hcl, rfl, hL, rfl, rfl⟩, ?_⟩
    show Steps p.tables e below _ (((({ U with heap := s₂.heap, slotsUsed := s₂.slotsUsed } : State).setVm s₂.vm).setTop g).pushFrame (.throwing q))
    rw [← hs₂]
    exact hsteps
end Payer
section Calls
variable {p : Program} {l : Launch} {e : Env} {R : Room} {s : State} {m : MethodId} {args : Array Value} {below : List Frame} {meth : Method} {c : Code} {T : State} {locs : List Loc} {cells slots : Nat}
theorem vx_callV (X : Stand p l e R s m args below meth c T locs cells slots) (hexec : p.tables.exec = Jvm.exec) {own C : String} {index : Nat} {y : MethodName} {bytes : ByteArray} {maxL : Nat} {ret : Option FieldType}
    (hown : s.vm.findClass own = some m.cls) (hlink : (Cond.methodLink own index y).before args s = true) (hinst : (Cond.instanceMethod y).before args s = true) (hsel : (Cond.selects C y y).before args s = true)
    (hcode : (Cond.code y bytes maxL ret).before args s = true) (hy : y.cls ≠ "java/lang/invoke/MethodHandle" ∧ y.cls ≠ "java/lang/invoke/VarHandle")
    {W9 : Nat} {Pre : Pt → Array Value → Prop} {Post : Pt → Array Value → Option Value → Pt → Prop} {PostX : Pt → Array Value → Addr → Pt → Prop} (hK : vx_Back l R p e below s args y 3 W9 Pre Post PostX)
    {b : Addr} {cellB : Cell} (hcell : T.heap[b]? = some cellB) (hobj : cellB.vm.isStatics = false) (hcls : s.vm.findClass C = some cellB.cls)
    {g : JFrame} (hg : g.method = m) (hsize : g.locals.size = c.maxLocals) {argsL rest : List Value} (hlen : ∀ sig, parseMethodDescriptor y.desc = some sig → argsL.length = sig.parameters.length)
    (hstack : g.stack = argsL.reverse ++ .ref b :: rest) (hW : 2 * g.monitorRoom + (rest.map fun v => v.category).sum ≤ W9) (hdg : decode c.code g.pc = .ok (.invokevirtual index, 3))
    (hpre : ∀ vm₁, s.WarmedH vm₁ → Pre ⟨T.setVm vm₁, locs, cells, slots⟩ (Value.ref b :: argsL).toArray) :
    (∃ (v : Option Value) (vm₁ : Vm) (B : Pt), s.WarmedH vm₁ ∧ Stand p l e R s m args below meth c B.U B.locs B.cells B.slots ∧ Post ⟨T.setVm vm₁, locs, cells, slots⟩ (Value.ref b :: argsL).toArray v B ∧
      ∀ target, Steps p.tables e below (B.U.setTop { g with pc := g.pc + 3, stack := v.toList ++ rest }) target → Steps p.tables e below (T.setTop g) target) ∨
    (∃ (q : Addr) (vm₁ : Vm) (B : Pt), s.WarmedH vm₁ ∧ Stand p l e R s m args below meth c B.U B.locs B.cells B.slots ∧ PostX ⟨T.setVm vm₁, locs, cells, slots⟩ (Value.ref b :: argsL).toArray q B ∧
      Steps p.tables e below (T.setTop g) ((B.U.setTop { g with stack := rest }).pushFrame (.throwing q))) := by
  obtain ⟨mk, methM, hnamed, hmethM, hstM, habM⟩ := Cond.instanceMethod_spec hinst
  obtain ⟨methM', cM, hmethM', -, -, -, -, -, -, hsigM⟩ := Cond.code_spec hnamed hcode
  cases hmethM.symm.trans hmethM'
  obtain ⟨c2, r2, m2, q1, q2, q3, q4, kP, hkP, hkPi⟩ := Cond.selects_spec hsel
  cases hcls.symm.trans q1
  cases (State.methodFound?_of_named hnamed hy).symm.trans q2
  cases hnamed.symm.trans q3
  have hselP : selectMethod e.platform s.vm cellB.cls mk = .method mk := by rw [Launch.admits_selectMethod X.admits]; exact q4
  obtain ⟨vm₁, X₁, hstep₁⟩ := X.invokevirtual hexec hown hlink hnamed hmethM hstM hkP hkPi hy (a := b) (cell := cellB) hcell
    (fun z h => by rw [h] at hobj; cases hobj) hselP hmethM habM hkP hkPi (g := g) hg (argsL := argsL) (rest := rest) (hlen _ hsigM) hstack hdg
  rcases hK m meth c ⟨T.setVm vm₁, locs, cells, slots⟩ { g with stack := rest } (.invokevirtual index) mk (Value.ref b :: argsL).toArray X₁ hg hsize hdg hW (X₁.named hnamed) (hpre vm₁ X₁.warmed) with ⟨v, B, X', hpost, hsteps⟩ | ⟨q, B, X', hpost, hsteps⟩
  · exact Or.inl ⟨v, vm₁, B, X₁.warmed, X', hpost, fun target h => hstep₁ _ fun acts => by rw [doInvoke_state]; exact hsteps.trans h⟩
  · exact Or.inr ⟨q, vm₁, B, X₁.warmed, X', hpost, hstep₁ _ fun acts => by rw [doInvoke_state]; exact hsteps⟩
theorem vx_callS (X : Stand p l e R s m args below meth c T locs cells slots) (hexec : p.tables.exec = Jvm.exec) {own : String} {index : Nat} {y : MethodName} {bytes : ByteArray} {maxL : Nat} {ret : Option FieldType}
    (hown : s.vm.findClass own = some m.cls) (hlink : (Cond.methodLink own index y).before args s = true) (hstat : (Cond.static y).before args s = true) (hinit : (Cond.initialized y.cls).before args s = true)
    (hcode : (Cond.code y bytes maxL ret).before args s = true) (hy : y.cls ≠ "java/lang/invoke/MethodHandle" ∧ y.cls ≠ "java/lang/invoke/VarHandle")
    {W9 : Nat} {Pre : Pt → Array Value → Prop} {Post : Pt → Array Value → Option Value → Pt → Prop} {PostX : Pt → Array Value → Addr → Pt → Prop} (hK : vx_Back l R p e below s args y 3 W9 Pre Post PostX)
    {g : JFrame} (hg : g.method = m) (hsize : g.locals.size = c.maxLocals) {argsL rest : List Value} (hlen : ∀ sig, parseMethodDescriptor y.desc = some sig → argsL.length = sig.parameters.length)
    (hstack : g.stack = argsL.reverse ++ rest) (hW : 2 * g.monitorRoom + (rest.map fun v => v.category).sum ≤ W9) (hdg : decode c.code g.pc = .ok (.invokestatic index, 3))
    (hpre : ∀ vm₁, s.WarmedH vm₁ → Pre ⟨T.setVm vm₁, locs, cells, slots⟩ argsL.toArray) :
    (∃ (v : Option Value) (vm₁ : Vm) (B : Pt), s.WarmedH vm₁ ∧ Stand p l e R s m args below meth c B.U B.locs B.cells B.slots ∧ Post ⟨T.setVm vm₁, locs, cells, slots⟩ argsL.toArray v B ∧
      ∀ target, Steps p.tables e below (B.U.setTop { g with pc := g.pc + 3, stack := v.toList ++ rest }) target → Steps p.tables e below (T.setTop g) target) ∨
    (∃ (q : Addr) (vm₁ : Vm) (B : Pt), s.WarmedH vm₁ ∧ Stand p l e R s m args below meth c B.U B.locs B.cells B.slots ∧ PostX ⟨T.setVm vm₁, locs, cells, slots⟩ argsL.toArray q B ∧
      Steps p.tables e below (T.setTop g) ((B.U.setTop { g with stack := rest }).pushFrame (.throwing q))) := by
  obtain ⟨mk, hnamed⟩ := Cond.code_named hcode
  obtain ⟨methM, cM, hmethM, -, -, -, -, -, -, hsigM⟩ := Cond.code_spec hnamed hcode
  have hstatic : methM.isStatic = true := Cond.static_spec hnamed hmethM hstat
  obtain ⟨kP, hkP, -⟩ := className_of_methodNamed hnamed
  have hinitP : kP.init = .initialized := Cond.initialized_spec (findClass_of_methodNamed hnamed) hkP hinit
  obtain ⟨vm₁, X₁, hstep₁⟩ := X.invokestatic hexec hown hlink hnamed hmethM hstatic hkP hinitP hy (g := g) hg (argsL := argsL) (rest := rest) (hlen _ hsigM) hstack hdg
  rcases hK m meth c ⟨T.setVm vm₁, locs, cells, slots⟩ { g with stack := rest } (.invokestatic index) mk argsL.toArray X₁ hg hsize hdg hW (X₁.named hnamed) (hpre vm₁ X₁.warmed) with ⟨v, B, X', hpost, hsteps⟩ | ⟨q, B, X', hpost, hsteps⟩
  · exact Or.inl ⟨v, vm₁, B, X₁.warmed, X', hpost, fun target h => hstep₁ _ fun acts => by rw [doInvoke_state]; exact hsteps.trans h⟩
  · exact Or.inr ⟨q, vm₁, B, X₁.warmed, X', hpost, hstep₁ _ fun acts => by rw [doInvoke_state]; exact hsteps⟩
end Calls
theorem vx_cls {s : State} {T : State} {vm₁ : Vm} {E : String} {k : ClassId} (hW : s.WarmedH vm₁) (h : (T.setVm vm₁).vm.findClass E = some k) : s.vm.findClass E = some k := by
  have h1 : vm₁.findClass E = some k := h
  rw [hW.alike.findClass] at h1
  exact h1
/-- the method's frame g, with q thrown over it -/
def vx_W (p : Program) (l : Launch) (e : Env) (R : Room) (s : State) (m : MethodId) (args : Array Value) (below : List Frame) (meth : Method) (c : Code) (H : Heap) (locs : List Loc) (cells slots : Nat) (Q : State → Prop) (g : JFrame) (q : Addr) : Prop :=
  ∀ T : State, T.heap = H → Stand p l e R s m args below meth c T locs cells slots → ∃ t, Steps p.tables e below ((T.setTop g).pushFrame (.throwing q)) t ∧ Q t
def vx_Run (p : Program) (l : Launch) (e : Env) (R : Room) (s : State) (m : MethodId) (args : Array Value) (below : List Frame) (meth : Method) (c : Code) (H : Heap) (locs : List Loc) (cells slots mc ms : Nat) (g : JFrame) (rest : List Value) (Qa : State → Outcome → State → Prop) (XC : String → State → State → Prop) (free : Addr → Prop) : Prop :=
  ∀ T : State, T.heap = H → Stand p l e R s m args below meth c T locs cells slots →
    (∃ (v : Option Value) (st₀ t T' : State) (L : List Loc), st₀.heap = H ∧ Stand p l e R s m args below meth c T' (locs ++ L) (cells + mc) (slots + ms) ∧ (∀ q ∈ L, free q.base) ∧ T'.heap = t.heap ∧ T'.vm = t.vm ∧ Qa st₀ (.returned v) t ∧
      Goes p e below T g T' { g with pc := g.pc + 3, stack := v.toList ++ rest }) ∨
    (∃ (q : Addr) (st₀ t T' : State) (L : List Loc) (E : String) (ce : Cell), st₀.heap = H ∧ Stand p l e R s m args below meth c T' (locs ++ L) (cells + mc) (slots + ms) ∧ (∀ z ∈ L, free z.base) ∧ T'.heap = t.heap ∧ T'.vm = t.vm ∧ XC E st₀ t ∧ t.heap[q]? = some ce ∧ ce.vm = .none ∧ s.vm.findClass E = some ce.cls ∧
      Steps p.tables e below (T.setTop g) ((T'.setTop { g with stack := rest }).pushFrame (.throwing q)))
def vx_X {S : Type} (px : S → Prop) (B : String → S → State → Prop) (A : Nat → Prop) : String → State → State → Prop := fun E st t => ∃ u : S, px u ∧ B E u t ∧ va_F A st t
section Runs
variable {p : Program} {l : Launch} {e : Env} {R : Room} {s : State} {m : MethodId} {args : Array Value} {below : List Frame} {meth : Method} {c : Code} {H : Heap} {locs : List Loc} {cells slots : Nat}
variable {y : MethodName} {bytes cc : ByteArray} {maxL nL mc ms n index : Nat} {ret : Option FieldType} {ws : List Cond} {rm : Room} {Pc : Array Value → State → Prop} {Qc : Array Value → State → Outcome → State → Prop} {XC : String → State → State → Prop} {free : Addr → Prop} {Ts : List Cond} {own C : String} {b : Addr} {As rest : List Value} {g : JFrame}
theorem vx_callBack (cb : CallB R s args own index y bytes maxL ret ws rm mc ms n) (hM : vx_Met l y ws rm Pc Qc XC mc ms free) (hbl : FrameBlind Pc) : vx_Back l R p e below s args y 3 8 (PreOf R mc ms Pc) (PostOf Qc mc ms free) (vx_Post XC mc ms free) := by
  obtain ⟨hrc, hrs, hfr, hlo, hws, hcw, -, hini, -⟩ := cb
  exact vx_back (bytes := bytes) (maxL := maxL) (ret := ret) hM hbl hrc hrs hfr hlo hws hcw (fun a' U hW => word_at hW (Or.inl (by first | rfl | simp [Cond.onTables, Cond.keeps, Cond.steady])) hini)
theorem vx_runV (S : CallFix p m c cc nL s args Ts own) (hM : vx_Met l y ws rm Pc Qc XC mc ms free) (cw : CallW R s args own C index y bytes maxL ret ws rm mc ms n) (hp : PreV s H C b Pc As)
    (hg : g.method = m) (hn : As.length = n) (hsize : g.locals.size = nL) (hstack : g.stack = As.reverse ++ .ref b :: rest) (hW : 2 * g.monitorRoom + (rest.map fun v => v.category).sum ≤ 8) (hdg : decode cc g.pc = .ok (.invokevirtual index, 3)) (hf : cells + mc ≤ R.cells ∧ slots + ms ≤ R.slots) :
    vx_Run p l e R s m args below meth c H locs cells slots mc ms g rest (Qc (Value.ref b :: As).toArray) XC free := by
  have hK : vx_Back l R p e below s args y 3 8 (PreOf R mc ms Pc) (PostOf Qc mc ms free) (vx_Post XC mc ms free) := vx_callBack cw.1 hM hp.1
  obtain ⟨⟨-, -, -, -, -, -, hcode, -, hy, hlen, hl⟩, hin, hse⟩ := cw
  obtain ⟨hx, hb, hml, ho, -⟩ := S
  obtain ⟨-, ⟨cellB, hcB, hoB, hclB⟩, hPc⟩ := hp
  intro T hT X
  rcases vx_callV X hx (C := C) (bytes := bytes) (maxL := maxL) (ret := ret) ho hl hin hse hcode hy hK (by rw [hT]; exact hcB) hoB hclB hg (hsize.trans hml.symm) (argsL := As) (rest := rest) (fun sig h => hn.trans (hlen sig h)) hstack hW (by rw [hb]; exact hdg)
    (fun vm₁ hW₁ => ⟨hf.1, hf.2, hPc (T.setVm vm₁) hT hW₁⟩) with ⟨v, vm₁, ⟨U', l2, c2, s2⟩, hW₁, X', ⟨g', mk, t, L, e1, e2, hq, h1, hL, h2, h3⟩, st⟩ | ⟨q, vm₁, ⟨U', l2, c2, s2⟩, hW₁, X', ⟨g', mk, t, L, E, ce, e1, e2, hq, hce, hcv, hcl, h1, hL, h2, h3⟩, st⟩
  · dsimp only [Pt.U, Pt.locs, Pt.cells, Pt.slots] at X' e1 e2 h1 h2 h3 st
    subst h1; subst h2; subst h3
    exact Or.inl ⟨v, (T.setVm vm₁).calling g' mk (Value.ref b :: As).toArray, t, U', L, hT, X', hL, e1, e2, hq, st⟩
  · dsimp only [Pt.U, Pt.locs, Pt.cells, Pt.slots] at X' e1 e2 h1 h2 h3 st hcl
    subst h1; subst h2; subst h3
    exact Or.inr ⟨q, (T.setVm vm₁).calling g' mk (Value.ref b :: As).toArray, t, U', L, E, ce, hT, X', hL, e1, e2, hq, hce, hcv, vx_cls hW₁ hcl, st⟩
theorem vx_runS (S : CallFix p m c cc nL s args Ts own) (hM : vx_Met l y ws rm Pc Qc XC mc ms free) (cw : CallB R s args own index y bytes maxL ret ws rm mc ms n ∧ (Cond.static y).before args s = true) (hp : PreS s H Pc As)
    (hg : g.method = m) (hn : As.length = n) (hsize : g.locals.size = nL) (hstack : g.stack = As.reverse ++ rest) (hW : 2 * g.monitorRoom + (rest.map fun v => v.category).sum ≤ 8) (hdg : decode cc g.pc = .ok (.invokestatic index, 3)) (hf : cells + mc ≤ R.cells ∧ slots + ms ≤ R.slots) :
    vx_Run p l e R s m args below meth c H locs cells slots mc ms g rest (Qc As.toArray) XC free := by
  have hK : vx_Back l R p e below s args y 3 8 (PreOf R mc ms Pc) (PostOf Qc mc ms free) (vx_Post XC mc ms free) := vx_callBack cw.1 hM hp.1
  obtain ⟨⟨-, -, -, -, -, -, hcode, hini, hy, hlen, hl⟩, hstt⟩ := cw
  obtain ⟨hx, hb, hml, ho, -⟩ := S
  intro T hT X
  rcases vx_callS X hx (bytes := bytes) (maxL := maxL) (ret := ret) ho hl hstt hini hcode hy hK hg (hsize.trans hml.symm) (argsL := As) (rest := rest) (fun sig h => hn.trans (hlen sig h)) hstack hW (by rw [hb]; exact hdg)
    (fun vm₁ hW₁ => ⟨hf.1, hf.2, hp.2 (T.setVm vm₁) hT hW₁⟩) with ⟨v, vm₁, ⟨U', l2, c2, s2⟩, hW₁, X', ⟨g', mk, t, L, e1, e2, hq, h1, hL, h2, h3⟩, st⟩ | ⟨q, vm₁, ⟨U', l2, c2, s2⟩, hW₁, X', ⟨g', mk, t, L, E, ce, e1, e2, hq, hce, hcv, hcl, h1, hL, h2, h3⟩, st⟩
  · dsimp only [Pt.U, Pt.locs, Pt.cells, Pt.slots] at X' e1 e2 h1 h2 h3 st
    subst h1; subst h2; subst h3
    exact Or.inl ⟨v, (T.setVm vm₁).calling g' mk As.toArray, t, U', L, hT, X', hL, e1, e2, hq, st⟩
  · dsimp only [Pt.U, Pt.locs, Pt.cells, Pt.slots] at X' e1 e2 h1 h2 h3 st hcl
    subst h1; subst h2; subst h3
    exact Or.inr ⟨q, (T.setVm vm₁).calling g' mk As.toArray, t, U', L, E, ce, hT, X', hL, e1, e2, hq, hce, hcv, vx_cls hW₁ hcl, st⟩
end Runs
section Rows
variable {p : Program} {l : Launch} {e : Env} {R : Room} {s : State} {m : MethodId} {args : Array Value} {below : List Frame} {meth : Method} {c : Code} {H : Heap} {locs : List Loc} {cells slots : Nat} {Q : State → Prop}
variable {mc ms : Nat} {free : Addr → Prop} {A0 A1 : Nat → Prop} {H0 : Heap} {a : Array Value} {pc : Nat} {ls : Array Slot} {st0 rest : List Value}
theorem vx_keep {st₀ t T' : State} {L : List Loc} (h0 : st₀.heap = H) (e1 : T'.heap = t.heap) (hS : va_S A0 H0 H locs) (hA : ∀ q, q < H.size → A1 q → A0 q) (hf : ∀ q, free q → A0 q) (hL : ∀ q ∈ L, free q.base) (hF : va_F A1 st₀ t) :
    H.size ≤ T'.heap.size ∧ (∀ q : Nat, q < H.size → ¬ A1 q → T'.heap[q]? = H[q]?) ∧ va_S A0 H0 T'.heap (locs ++ L) := by
  obtain ⟨hz, hk⟩ := hF
  rw [h0] at hz hk
  exact ⟨by rw [e1]; exact hz, fun q h1 h2 => by rw [e1]; exact hk q h1 h2,
    ⟨Nat.le_trans hS.1 (by rw [e1]; exact hz), fun q h1 h2 => by rw [e1, hk q (Nat.lt_of_lt_of_le h1 hS.1) (fun z => h2 (hA q (Nat.lt_of_lt_of_le h1 hS.1) z))]; exact hS.2.1 q h1 h2, fun q hq => by
      rcases List.mem_append.mp hq with h | h
      · exact hS.2.2 q h
      · exact hf _ (hL q h)⟩⟩
theorem vx_calli {S SX : Type} {post : Int32 → S → Prop} {px : SX → Prop} {B : S → State → Prop} {BX : String → SX → State → Prop} {AX : Nat → Prop} (hr : vx_Run p l e R s m args below meth c H locs cells slots mc ms (F0 m pc ls st0) rest (va_Qi post B A1 a) (vx_X px BX AX) free) (hS : va_S A0 H0 H locs) (hA : ∀ q, q < H.size → A1 q → A0 q) (hf : ∀ q, free q → A0 q) (hAX : ∀ q, q < H.size → AX q → A0 q)
    (kx : ∀ (E : String) (ce : Cell) (q9 : Addr) (u : SX) (t : State) (H1 : Heap) (locs1 : List Loc), t.heap = H1 → s.vm.Alike t.vm → px u → BX E u t → H.size ≤ H1.size → (∀ q : Nat, q < H.size → ¬ AX q → H1[q]? = H[q]?) → va_S A0 H0 H1 locs1 → H1[q9]? = some ce → ce.vm = .none → s.vm.findClass E = some ce.cls → vx_W p l e R s m args below meth c H1 locs1 (cells + mc) (slots + ms) Q (F0 m pc ls rest) q9)
    (kk : ∀ (r : Int32) (u : S) (t : State) (H1 : Heap) (locs1 : List Loc), t.heap = H1 → s.vm.Alike t.vm → post r u → B u t → H.size ≤ H1.size → (∀ q : Nat, q < H.size → ¬ A1 q → H1[q]? = H[q]?) → va_S A0 H0 H1 locs1 → W p l e R s m args below meth c H1 locs1 (cells + mc) (slots + ms) Q (F0 m (pc + 3) ls (.int r :: rest))) : W p l e R s m args below meth c H locs cells slots Q (F0 m pc ls st0) := by
  intro T hT X
  rcases hr T hT X with ⟨v, st₀, t, T', L, h0, X', hL, e1, e2, ⟨⟨r, u, hv, hp, hb⟩, hF⟩, st⟩ | ⟨q, st₀, t, T', L, E, ce, h0, X', hL, e1, e2, ⟨u, hp, hb, hF⟩, hce, hcv, hcl, st⟩
  · cases hv
    obtain ⟨k1, k2, k3⟩ := vx_keep h0 e1 hS hA hf hL hF
    obtain ⟨t2, a1, b1⟩ := kk r u t T'.heap (locs ++ L) e1.symm (by rw [← e2]; exact X'.warmed.alike) hp hb k1 k2 k3 T' rfl X'
    exact ⟨t2, st t2 a1, b1⟩
  · obtain ⟨k1, k2, k3⟩ := vx_keep h0 e1 hS hAX hf hL hF
    obtain ⟨t2, a1, b1⟩ := kx E ce q u t T'.heap (locs ++ L) e1.symm (by rw [← e2]; exact X'.warmed.alike) hp hb k1 k2 k3 (by rw [e1]; exact hce) hcv hcl T' rfl X'
    exact ⟨t2, st.trans a1, b1⟩
theorem vx_calll {S SX : Type} {post : Int64 → S → Prop} {px : SX → Prop} {B : S → State → Prop} {BX : String → SX → State → Prop} {AX : Nat → Prop} (hr : vx_Run p l e R s m args below meth c H locs cells slots mc ms (F0 m pc ls st0) rest (va_Ql post B A1 a) (vx_X px BX AX) free) (hS : va_S A0 H0 H locs) (hA : ∀ q, q < H.size → A1 q → A0 q) (hf : ∀ q, free q → A0 q) (hAX : ∀ q, q < H.size → AX q → A0 q)
    (kx : ∀ (E : String) (ce : Cell) (q9 : Addr) (u : SX) (t : State) (H1 : Heap) (locs1 : List Loc), t.heap = H1 → s.vm.Alike t.vm → px u → BX E u t → H.size ≤ H1.size → (∀ q : Nat, q < H.size → ¬ AX q → H1[q]? = H[q]?) → va_S A0 H0 H1 locs1 → H1[q9]? = some ce → ce.vm = .none → s.vm.findClass E = some ce.cls → vx_W p l e R s m args below meth c H1 locs1 (cells + mc) (slots + ms) Q (F0 m pc ls rest) q9)
    (kk : ∀ (r : Int64) (u : S) (t : State) (H1 : Heap) (locs1 : List Loc), t.heap = H1 → s.vm.Alike t.vm → post r u → B u t → H.size ≤ H1.size → (∀ q : Nat, q < H.size → ¬ A1 q → H1[q]? = H[q]?) → va_S A0 H0 H1 locs1 → W p l e R s m args below meth c H1 locs1 (cells + mc) (slots + ms) Q (F0 m (pc + 3) ls (.long r :: rest))) : W p l e R s m args below meth c H locs cells slots Q (F0 m pc ls st0) := by
  intro T hT X
  rcases hr T hT X with ⟨v, st₀, t, T', L, h0, X', hL, e1, e2, ⟨⟨r, u, hv, hp, hb⟩, hF⟩, st⟩ | ⟨q, st₀, t, T', L, E, ce, h0, X', hL, e1, e2, ⟨u, hp, hb, hF⟩, hce, hcv, hcl, st⟩
  · cases hv
    obtain ⟨k1, k2, k3⟩ := vx_keep h0 e1 hS hA hf hL hF
    obtain ⟨t2, a1, b1⟩ := kk r u t T'.heap (locs ++ L) e1.symm (by rw [← e2]; exact X'.warmed.alike) hp hb k1 k2 k3 T' rfl X'
    exact ⟨t2, st t2 a1, b1⟩
  · obtain ⟨k1, k2, k3⟩ := vx_keep h0 e1 hS hAX hf hL hF
    obtain ⟨t2, a1, b1⟩ := kx E ce q u t T'.heap (locs ++ L) e1.symm (by rw [← e2]; exact X'.warmed.alike) hp hb k1 k2 k3 (by rw [e1]; exact hce) hcv hcl T' rfl X'
    exact ⟨t2, st.trans a1, b1⟩
theorem vx_callf {S SX : Type} {post : UInt32 → S → Prop} {px : SX → Prop} {B : S → State → Prop} {BX : String → SX → State → Prop} {AX : Nat → Prop} (hr : vx_Run p l e R s m args below meth c H locs cells slots mc ms (F0 m pc ls st0) rest (va_Qf post B A1 a) (vx_X px BX AX) free) (hS : va_S A0 H0 H locs) (hA : ∀ q, q < H.size → A1 q → A0 q) (hf : ∀ q, free q → A0 q) (hAX : ∀ q, q < H.size → AX q → A0 q)
    (kx : ∀ (E : String) (ce : Cell) (q9 : Addr) (u : SX) (t : State) (H1 : Heap) (locs1 : List Loc), t.heap = H1 → s.vm.Alike t.vm → px u → BX E u t → H.size ≤ H1.size → (∀ q : Nat, q < H.size → ¬ AX q → H1[q]? = H[q]?) → va_S A0 H0 H1 locs1 → H1[q9]? = some ce → ce.vm = .none → s.vm.findClass E = some ce.cls → vx_W p l e R s m args below meth c H1 locs1 (cells + mc) (slots + ms) Q (F0 m pc ls rest) q9)
    (kk : ∀ (r : UInt32) (u : S) (t : State) (H1 : Heap) (locs1 : List Loc), t.heap = H1 → s.vm.Alike t.vm → post r u → B u t → H.size ≤ H1.size → (∀ q : Nat, q < H.size → ¬ A1 q → H1[q]? = H[q]?) → va_S A0 H0 H1 locs1 → W p l e R s m args below meth c H1 locs1 (cells + mc) (slots + ms) Q (F0 m (pc + 3) ls (.float r :: rest))) : W p l e R s m args below meth c H locs cells slots Q (F0 m pc ls st0) := by
  intro T hT X
  rcases hr T hT X with ⟨v, st₀, t, T', L, h0, X', hL, e1, e2, ⟨⟨r, u, hv, hp, hb⟩, hF⟩, st⟩ | ⟨q, st₀, t, T', L, E, ce, h0, X', hL, e1, e2, ⟨u, hp, hb, hF⟩, hce, hcv, hcl, st⟩
  · cases hv
    obtain ⟨k1, k2, k3⟩ := vx_keep h0 e1 hS hA hf hL hF
    obtain ⟨t2, a1, b1⟩ := kk r u t T'.heap (locs ++ L) e1.symm (by rw [← e2]; exact X'.warmed.alike) hp hb k1 k2 k3 T' rfl X'
    exact ⟨t2, st t2 a1, b1⟩
  · obtain ⟨k1, k2, k3⟩ := vx_keep h0 e1 hS hAX hf hL hF
    obtain ⟨t2, a1, b1⟩ := kx E ce q u t T'.heap (locs ++ L) e1.symm (by rw [← e2]; exact X'.warmed.alike) hp hb k1 k2 k3 (by rw [e1]; exact hce) hcv hcl T' rfl X'
    exact ⟨t2, st.trans a1, b1⟩
theorem vx_calld {S SX : Type} {post : UInt64 → S → Prop} {px : SX → Prop} {B : S → State → Prop} {BX : String → SX → State → Prop} {AX : Nat → Prop} (hr : vx_Run p l e R s m args below meth c H locs cells slots mc ms (F0 m pc ls st0) rest (va_Qd post B A1 a) (vx_X px BX AX) free) (hS : va_S A0 H0 H locs) (hA : ∀ q, q < H.size → A1 q → A0 q) (hf : ∀ q, free q → A0 q) (hAX : ∀ q, q < H.size → AX q → A0 q)
    (kx : ∀ (E : String) (ce : Cell) (q9 : Addr) (u : SX) (t : State) (H1 : Heap) (locs1 : List Loc), t.heap = H1 → s.vm.Alike t.vm → px u → BX E u t → H.size ≤ H1.size → (∀ q : Nat, q < H.size → ¬ AX q → H1[q]? = H[q]?) → va_S A0 H0 H1 locs1 → H1[q9]? = some ce → ce.vm = .none → s.vm.findClass E = some ce.cls → vx_W p l e R s m args below meth c H1 locs1 (cells + mc) (slots + ms) Q (F0 m pc ls rest) q9)
    (kk : ∀ (r : UInt64) (u : S) (t : State) (H1 : Heap) (locs1 : List Loc), t.heap = H1 → s.vm.Alike t.vm → post r u → B u t → H.size ≤ H1.size → (∀ q : Nat, q < H.size → ¬ A1 q → H1[q]? = H[q]?) → va_S A0 H0 H1 locs1 → W p l e R s m args below meth c H1 locs1 (cells + mc) (slots + ms) Q (F0 m (pc + 3) ls (.double r :: rest))) : W p l e R s m args below meth c H locs cells slots Q (F0 m pc ls st0) := by
  intro T hT X
  rcases hr T hT X with ⟨v, st₀, t, T', L, h0, X', hL, e1, e2, ⟨⟨r, u, hv, hp, hb⟩, hF⟩, st⟩ | ⟨q, st₀, t, T', L, E, ce, h0, X', hL, e1, e2, ⟨u, hp, hb, hF⟩, hce, hcv, hcl, st⟩
  · cases hv
    obtain ⟨k1, k2, k3⟩ := vx_keep h0 e1 hS hA hf hL hF
    obtain ⟨t2, a1, b1⟩ := kk r u t T'.heap (locs ++ L) e1.symm (by rw [← e2]; exact X'.warmed.alike) hp hb k1 k2 k3 T' rfl X'
    exact ⟨t2, st t2 a1, b1⟩
  · obtain ⟨k1, k2, k3⟩ := vx_keep h0 e1 hS hAX hf hL hF
    obtain ⟨t2, a1, b1⟩ := kx E ce q u t T'.heap (locs ++ L) e1.symm (by rw [← e2]; exact X'.warmed.alike) hp hb k1 k2 k3 (by rw [e1]; exact hce) hcv hcl T' rfl X'
    exact ⟨t2, st.trans a1, b1⟩
theorem vx_callv {S SX : Type} {post : S → Prop} {px : SX → Prop} {B : S → State → Prop} {BX : String → SX → State → Prop} {AX : Nat → Prop} (hr : vx_Run p l e R s m args below meth c H locs cells slots mc ms (F0 m pc ls st0) rest (va_Qv post B A1 a) (vx_X px BX AX) free) (hS : va_S A0 H0 H locs) (hA : ∀ q, q < H.size → A1 q → A0 q) (hf : ∀ q, free q → A0 q) (hAX : ∀ q, q < H.size → AX q → A0 q)
    (kx : ∀ (E : String) (ce : Cell) (q9 : Addr) (u : SX) (t : State) (H1 : Heap) (locs1 : List Loc), t.heap = H1 → s.vm.Alike t.vm → px u → BX E u t → H.size ≤ H1.size → (∀ q : Nat, q < H.size → ¬ AX q → H1[q]? = H[q]?) → va_S A0 H0 H1 locs1 → H1[q9]? = some ce → ce.vm = .none → s.vm.findClass E = some ce.cls → vx_W p l e R s m args below meth c H1 locs1 (cells + mc) (slots + ms) Q (F0 m pc ls rest) q9)
    (kk : ∀ (u : S) (t : State) (H1 : Heap) (locs1 : List Loc), t.heap = H1 → s.vm.Alike t.vm → post u → B u t → H.size ≤ H1.size → (∀ q : Nat, q < H.size → ¬ A1 q → H1[q]? = H[q]?) → va_S A0 H0 H1 locs1 → W p l e R s m args below meth c H1 locs1 (cells + mc) (slots + ms) Q (F0 m (pc + 3) ls (rest))) : W p l e R s m args below meth c H locs cells slots Q (F0 m pc ls st0) := by
  intro T hT X
  rcases hr T hT X with ⟨v, st₀, t, T', L, h0, X', hL, e1, e2, ⟨⟨u, hv, hp, hb⟩, hF⟩, st⟩ | ⟨q, st₀, t, T', L, E, ce, h0, X', hL, e1, e2, ⟨u, hp, hb, hF⟩, hce, hcv, hcl, st⟩
  · cases hv
    obtain ⟨k1, k2, k3⟩ := vx_keep h0 e1 hS hA hf hL hF
    obtain ⟨t2, a1, b1⟩ := kk u t T'.heap (locs ++ L) e1.symm (by rw [← e2]; exact X'.warmed.alike) hp hb k1 k2 k3 T' rfl X'
    exact ⟨t2, st t2 a1, b1⟩
  · obtain ⟨k1, k2, k3⟩ := vx_keep h0 e1 hS hAX hf hL hF
    obtain ⟨t2, a1, b1⟩ := kx E ce q u t T'.heap (locs ++ L) e1.symm (by rw [← e2]; exact X'.warmed.alike) hp hb k1 k2 k3 (by rw [e1]; exact hce) hcv hcl T' rfl X'
    exact ⟨t2, st.trans a1, b1⟩
/-- caught by the row x of this method's table; the rows ahead don't take it -/
theorem vx_catch {own name : String} {E : String} {ce : Cell} {q : Addr} (hown : s.vm.findClass own = some m.cls) (pre : List ExceptionTableEntry) (x : ExceptionTableEntry) (suf : List ExceptionTableEntry) (hsplit : c.exceptionTable.toList = pre ++ x :: suf)
    (hpass : ∀ z ∈ pre, covers z pc = false ∨ (z.catchType ≠ 0 ∧ ∃ nm : String, (Cond.classLink own z.catchType nm).before args s = true ∧ va_Nc E nm s)) (hx : covers x pc = true) (h0 : x.catchType ≠ 0)
    (hlink : (Cond.classLink own x.catchType name).before args s = true) (hcast : (Cond.castable E name).before args s = true) (hcell : H[q]? = some ce) (hv : ce.vm = .none) (hcl : s.vm.findClass E = some ce.cls)
    (kk : W p l e R s m args below meth c H locs cells slots Q (F0 m x.handlerPc ls [.ref q])) : vx_W p l e R s m args below meth c H locs cells slots Q (F0 m pc ls rest) q := by
  intro T hT X
  have hpl : e.platform.magicAccessors = ({} : Platform).magicAccessors := by rw [X.admits.platform]
  obtain ⟨c3, c4, hc3, hc4, hasg⟩ := Cond.castable_spec hcast
  cases Option.some.inj (hc3.symm.trans hcl)
  obtain ⟨c5, hc5, hcl5⟩ := Cond.classLink_spec hown hlink e.platform hpl
  cases Option.some.inj (hc4.symm.trans hc5)
  obtain ⟨vm', X', st⟩ := X.thenCaughtThrough q (g := F0 m pc ls rest) rfl (Steps.refl _) (by rw [hT]; exact hcell) (by rw [hv]; rfl) (by obtain ⟨k9, h9, -⟩ := Vm.findClass_spec hcl; exact ⟨k9, h9⟩) pre x suf hsplit
    (fun z hz => by
      rcases hpass z hz with h | ⟨hz0, nm, hl1, hn1⟩
      · exact Or.inl h
      · obtain ⟨c6, hc6, hcl6⟩ := Cond.classLink_spec hown hl1 e.platform hpl
        obtain ⟨a8, b8, h1, h2, h3⟩ := hn1
        cases Option.some.inj (h1.symm.trans hcl)
        cases Option.some.inj (h2.symm.trans hc6)
        exact Or.inr ⟨hz0, _, hcl6, h3⟩) hx (Or.inr ⟨h0, c4, hcl5, hasg⟩)
  obtain ⟨t, a1, b1⟩ := kk (T.setVm vm') hT X'
  exact ⟨t, st.trans a1, b1⟩
end Rows
section Ends
variable {p : Program} {l : Launch} {e : Env} {R : Room} {s : State} {m : MethodId} {args : Array Value} {below : List Frame} {meth : Method} {c : Code} {H : Heap} {locs : List Loc} {cells slots : Nat} {Q : State → Prop}
variable {mc ms : Nat} {free : Addr → Prop} {A0 A1 : Nat → Prop} {H0 : Heap} {a : Array Value} {ls : Array Slot} {st0 rest : List Value}
variable {Qc : Array Value → State → Outcome → State → Prop} {XC : String → State → State → Prop}
/-- what a body that may throw owes at its end -/
def vx_MQ (below : List Frame) (Qc : Array Value → State → Outcome → State → Prop) (XC : String → State → State → Prop) (a : Array Value) (s : State) (mc ms : Nat) (free : Addr → Prop) : State → Prop := fun t =>
  ∃ o, t.status = .running ∧ Ended t below o ∧ vx_Q Qc XC mc ms free a s o t
theorem vx_ret {g : JFrame} {mc ms : Nat} (k : W p l e R s m args below meth c H locs cells slots (MQ below Qc args s mc ms free) g) : W p l e R s m args below meth c H locs cells slots (vx_MQ below Qc XC args s mc ms free) g := by
  intro T hT X
  obtain ⟨t, a1, o, b1, b2, b3, b4⟩ := k T hT X
  exact ⟨t, a1, o, b1, b2, Or.inl ⟨b3, b4⟩⟩
/-- not caught here: it goes on to the caller -/
theorem vx_widen {g : JFrame} {q : Addr} {k n : Nat} (h1 : cells ≤ k) (h2 : slots ≤ n) (kk : vx_W p l e R s m args below meth c H locs k n Q g q) : vx_W p l e R s m args below meth c H locs cells slots Q g q := fun T hT X => kk T hT (stand_widen X h1 h2)
theorem vx_out {pc : Nat} {E : String} {ce : Cell} {q : Addr} {mc ms : Nat} (hout : ∀ x ∈ c.exceptionTable.toList, covers x pc = false) (hlocks : meth.locks = false) (hcell : H[q]? = some ce) (hv : ce.vm = .none) (hcl : s.vm.findClass E = some ce.cls)
    (hx : ∀ t : State, t.heap = H → s.vm.Alike t.vm → XC E s t) (hf : ∀ z ∈ locs, free z.base) (hc : cells ≤ mc) (hs : slots ≤ ms) :
    vx_W p l e R s m args below meth c H locs cells slots (vx_MQ below Qc XC args s mc ms free) (F0 m pc ls rest) q := by
  intro T hT X
  obtain ⟨st1, hrun, hend, hW, hsm⟩ := X.leaveThrown q (g := F0 m pc ls rest) rfl rfl rfl hout hlocks
  have hcell9 : (T.setFrames (.throwing q :: below)).heap[q]? = some ce := by
    show T.heap[q]? = some ce
    rw [hT]; exact hcell
  exact ⟨_, st1, .threw q, hrun, hend, Or.inr ⟨q, rfl, E, ce, locs, hx _ hT hW.alike, hcell9, hv, hcl, hW, hsm.mono hc hs, hf⟩⟩
theorem vx_frame {U : State} {k n : Nat} (h : s.sameButNew ({ U with vm := s.vm } : State) locs k n) : s.heap.size ≤ U.heap.size ∧ ∀ q : Nat, q < s.heap.size → (∀ z ∈ locs, z.base ≠ q) → U.heap[q]? = s.heap[q]? := by
  obtain ⟨-, h2, -, -, -, h6⟩ := h
  refine ⟨h2, fun q hq hz => ?_⟩
  obtain ⟨c9, e1, e2, e3, e4⟩ := h6 q _ (Array.getElem?_eq_getElem hq)
  have hs : c9.slots = (s.heap[q]).slots := Array.ext_getElem? fun i => e4 i fun hm => hz _ hm rfl
  have h9 : c9 = s.heap[q] := by
    rw [hs] at e2
    exact e2
  have e5 : U.heap[q]? = some c9 := e1
  rw [e5, h9, Array.getElem?_eq_getElem hq]
/-- the words of a throw but the four that speak of the heap -/
def vx_no (w : Cond) : Bool := decide (w ≠ .isRef (.static Bundle.tN "UNASSIGNED_STACK" Bundle.steD)) && decide (w ≠ .isRef (.static Bundle.tN "SUPPRESSED_SENTINEL" Bundle.listD)) && decide (w ≠ .laysStatic Bundle.tN "UNASSIGNED_STACK" Bundle.steD) && decide (w ≠ .laysStatic Bundle.tN "SUPPRESSED_SENTINEL" Bundle.listD)
def vx_at0 (own : String) (ic : Nat) (X : String) (names : List String) : List Cond := (Bundle.ownAtoms0 own ic X names).filter vx_no
def vx_atS (own : String) (ic : Nat) (X : String) (names : List String) : List Cond := (Bundle.ownAtoms own ic X names).filter vx_no
/-- a word that the tables alone decide, or a good one -/
def vx_ot (w : Cond) : Bool := w.onTables || goodWord w
theorem vx_ot_at {args a' : Array Value} {s U : State} {w : Cond} (hW : s.WarmedH U.vm) (hvm : s.vm = U.vm) (hg : vx_ot w = true) (h : w.before args s = true) : w.before a' U = true := by
  simp only [vx_ot, Bool.or_eq_true] at hg
  rcases hg with hg | hg
  · exact va_tabs hg hvm h
  · exact word_at hW (good_of_word hg) h
/-- a list's words: the good ones out of the method's own list, the others by premises of their own -/
theorem vx_hat {args : Array Value} {s : State} {L B : List Cond} (h1 : ∀ w ∈ L.filter goodWord, w.before args s = true) (h2 : ∀ w ∈ L.filter (fun w => !goodWord w), w ∈ B) (h3 : ∀ w ∈ B, w.before args s = true) : ∀ w ∈ L, w.before args s = true := by
  intro w hw
  by_cases g : goodWord w = true
  · exact h1 w (List.mem_filter.mpr ⟨hw, g⟩)
  · refine h3 w (h2 w (List.mem_filter.mpr ⟨hw, ?_⟩))
    show (!goodWord w) = true
    cases hgw : goodWord w
    · rfl
    · exact absurd hgw g
theorem vx_c {args : Array Value} {s : State} {w : Cond} {B : List Cond} (h : w.before args s = true) (t : ∀ w ∈ B, w.before args s = true) : ∀ w' ∈ w :: B, w'.before args s = true := fun w' h' => (List.mem_cons.mp h').elim (fun e => by rw [e]; exact h) (t w')
theorem vx_n {args : Array Value} {s : State} : ∀ w ∈ ([] : List Cond), w.before args s = true := fun _ h => nomatch h
theorem vx_own {args : Array Value} {s : State} {L : List Cond} (h1 : ∀ w ∈ L.filter vx_no, w.before args s = true)
    (hU : (Cond.isRef (.static Bundle.tN "UNASSIGNED_STACK" Bundle.steD)).before args s = true) (hN : (Cond.isRef (.static Bundle.tN "SUPPRESSED_SENTINEL" Bundle.listD)).before args s = true)
    (lU : (Cond.laysStatic Bundle.tN "UNASSIGNED_STACK" Bundle.steD).before args s = true) (lN : (Cond.laysStatic Bundle.tN "SUPPRESSED_SENTINEL" Bundle.listD).before args s = true) : ∀ w ∈ L, w.before args s = true := by
  intro w hw
  by_cases e1 : w = .isRef (.static Bundle.tN "UNASSIGNED_STACK" Bundle.steD)
  · rw [e1]; exact hU
  · by_cases e2 : w = .isRef (.static Bundle.tN "SUPPRESSED_SENTINEL" Bundle.listD)
    · rw [e2]; exact hN
    · by_cases e3 : w = .laysStatic Bundle.tN "UNASSIGNED_STACK" Bundle.steD
      · rw [e3]; exact lU
      · by_cases e4 : w = .laysStatic Bundle.tN "SUPPRESSED_SENTINEL" Bundle.listD
        · rw [e4]; exact lN
        · exact h1 w (List.mem_filter.mpr ⟨hw, by unfold vx_no; rw [decide_eq_true e1, decide_eq_true e2, decide_eq_true e3, decide_eq_true e4]; rfl⟩)
/-- where a static field lies, its class's statics cell in H -/
def vx_L (C n d : String) (A : Nat → Prop) (U : State) (H : Heap) : Prop := ∃ (c : ClassId) (k : Class) (i : Nat) (f : Field) (a : Nat) (cell : Cell), U.vm.findClass C = some c ∧ U.fieldFound? C n d = some (c, k, i, f) ∧ f.isStatic = true ∧ k.statics = some a ∧ H[a]? = some cell ∧ cell.vm.isStatics = true ∧ cell.cls = c ∧ f.slot < cell.slots.size ∧ k.staticTypes[f.slot]? = some f.type ∧ ¬ A a
theorem vx_L.moved {C n d : String} {A : Nat → Prop} {u U : State} {H : Heap} (hvm : u.vm.Alike U.vm) (h : vx_L C n d A u H) : vx_L C n d A U H := by
  obtain ⟨c, k, i, f, a, cell, h1, h2, h3, h4, h5, h6, h7, h8, h9, h10⟩ := h
  obtain ⟨k', hi', he⟩ := State.fieldFound?_setVm hvm h2
  exact ⟨c, k', i, f, a, cell, by rw [hvm.findClass]; exact h1, hi', h3, by rw [he]; exact h4, h5, h6, h7, h8, by rw [he]; exact h9, h10⟩
theorem vx_L.kept {C n d : String} {A : Nat → Prop} {U : State} {H H1 : Heap} (h : vx_L C n d A U H) (hq : ∀ a : Nat, a < H.size → ¬ A a → H1[a]? = H[a]?) : vx_L C n d A U H1 := by
  obtain ⟨c, k, i, f, a, cell, h1, h2, h3, h4, h5, h6, h7, h8, h9, h10⟩ := h
  exact ⟨c, k, i, f, a, cell, h1, h2, h3, h4, by rw [hq a (Array.getElem?_eq_some_iff.mp h5).1 h10]; exact h5, h6, h7, h8, h9, h10⟩
theorem vx_L.narrow {C n d : String} {A B : Nat → Prop} {U : State} {H : Heap} (h : vx_L C n d A U H) (hAB : ∀ q, B q → A q) : vx_L C n d B U H := by
  obtain ⟨c, k, i, f, a, cell, h1, h2, h3, h4, h5, h6, h7, h8, h9, h10⟩ := h
  exact ⟨c, k, i, f, a, cell, h1, h2, h3, h4, h5, h6, h7, h8, h9, fun z => h10 (hAB _ z)⟩
theorem vx_L.word {C n d : String} {A : Nat → Prop} {s : State} {args : Array Value} (h : vx_L C n d A s s.heap) : (Cond.laysStatic C n d).before args s = true := by
  obtain ⟨c, k, i, f, a, cell, h1, h2, h3, h4, h5, h6, h7, h8, h9, -⟩ := h
  show (Cond.laysStatic C n d).holds args s none s [] = true
  exact Cond.laysStatic_of h1 h2 h3 h4 h5 h6 h7 h8 h9
/-- .. and what it holds: null or some reference -/
def vx_Zq (C n d : String) (A : Nat → Prop) (U : State) (H : Heap) : Prop := va_Zq C n d A U H ∧ vx_L C n d A U H
theorem vx_Zq.moved {C n d : String} {A : Nat → Prop} {u U : State} {H : Heap} (hvm : u.vm.Alike U.vm) (h : vx_Zq C n d A u H) : vx_Zq C n d A U H := ⟨va_Zq.moved hvm h.1, vx_L.moved hvm h.2⟩
theorem vx_Zq.kept {C n d : String} {A : Nat → Prop} {U : State} {H H1 : Heap} (h : vx_Zq C n d A U H) (hq : ∀ a : Nat, a < H.size → ¬ A a → H1[a]? = H[a]?) : vx_Zq C n d A U H1 := ⟨va_Zq.kept h.1 hq, vx_L.kept h.2 hq⟩
theorem vx_Zq.narrow {C n d : String} {A B : Nat → Prop} {U : State} {H : Heap} (h : vx_Zq C n d A U H) (hAB : ∀ q, B q → A q) : vx_Zq C n d B U H := ⟨va_Zq.narrow h.1 hAB, vx_L.narrow h.2 hAB⟩
theorem vx_Zqof {args : Array Value} {s : State} {C n d : String} {A : Nat → Prop} (hl : (Cond.laysStatic C n d).before args s = true) (hini : (Cond.initialized C).before args s = true) (h : (Cond.isRef (.static C n d)).before args s = true) (hA : ∀ a : Nat, a < s.heap.size → ¬ A a) : vx_Zq C n d A s s.heap := by
  refine ⟨va_Zqof hl hini h hA, ?_⟩
  obtain ⟨c, k, i, f, a, cell, h1, h2, h3, h4, h5, h6, h7, h8, h9⟩ := Cond.laysStatic_spec hl
  exact ⟨c, k, i, f, a, cell, h1, h2, h3, h4, h5, h6, h7, h8, h9, hA a (Array.getElem?_eq_some_iff.mp h5).1⟩
theorem vx_isRef {C n d : String} {v : Value} {A : Nat → Prop} {s : State} {args : Array Value} (h : va_Z C n d v A s s.heap) (hv : v.isRef = true) : (Cond.isRef (.static C n d)).before args s = true := by
  obtain ⟨cf, kf, fi, f, a, cell, h1, h2, h3, h4, h5, h6, h7, -⟩ := h
  have he : (Term.static C n d).eval args s none [] s = some v := by
    simp [Term.eval, State.fieldNamed?, h1, h2, h4, h5, h6, h7]
  simp only [Cond.before, Cond.holds, Cond.value, he]
  cases v <;> simp_all [Value.isRef]
theorem vx_isRefq {C n d : String} {A : Nat → Prop} {s : State} {args : Array Value} (h : va_Zq C n d A s s.heap) : (Cond.isRef (.static C n d)).before args s = true := by
  rcases h with h | ⟨t, h⟩
  · exact vx_isRef h rfl
  · exact vx_isRef h rfl
/-- the same frame, seen from here: as if the method were called anew in this heap -/
theorem vx_rebase {T : State} (X : Stand p l e R s m args below meth c T locs cells slots) {R' : Room} (hf : R'.frames ≤ R.frames) (hl : R'.locals ≤ R.locals) (hc : cells + R'.cells ≤ R.cells) (hs : slots + R'.slots ≤ R.slots) :
    Stand p l e R' ((T.setVm s.vm).setFrames (.invoking m args :: below)) m args below meth c T [] 0 0 := by
  have htop : (T.setVm s.vm).topJava?.isSome := X.here.top
  have hF : ((T.setVm s.vm).setFrames (.invoking m args :: below)).frames = .invoking m args :: below := State.frames_setFrames _ (State.cur_lt_of_top htop)
  obtain ⟨g₀, hg0⟩ := Option.isSome_iff_exists.mp htop
  obtain ⟨r, hr⟩ := State.topJava?_eq_some.mp hg0
  have hl9 : e.platform.stackLimits (T.setVm s.vm).me = e.platform.stackLimits s.me := X.limits
  have hb9 : (T.setVm s.vm).me.stackBytes = s.me.stackBytes := X.bytes
  refine ⟨X.admits, X.cas, X.clock, hF, ?_, X.hears, X.method, X.code, X.here, X.tail, X.warmed, ?_, ?_, ?_⟩
  · have h := X.room
    have hU : ((T.setVm s.vm).setFrames (.invoking m args :: below)).localsInUse = s.localsInUse := by
      rw [State.localsInUse_invoking hF (meth := meth) (c := c) X.method X.code, State.localsInUse_invoking X.frames X.method X.code]
    simp only [State.hasRoom, Bool.and_eq_true, decide_eq_true_eq] at h ⊢
    obtain ⟨⟨⟨⟨h1, h2, h3, h4, h5, h6⟩, h7⟩, h8⟩, h9⟩ := h
    rw [X.frames, List.length_cons] at h2 h3
    have q1 := X.heapSize
    have q2 := X.used
    simp only [hF, hU, List.length_cons, State.stackLimits_setFrames, State.stackBytes_setFrames, hl9, hb9]
    refine ⟨⟨⟨⟨by omega, by omega, by omega, by omega, by omega, h6⟩, ?_⟩, ?_⟩, X.book⟩
    · show T.heap.size + R'.cells ≤ e.platform.maxCells
      omega
    · show T.slotsUsed + R'.slots ≤ e.platform.maxSlots
      omega
  · rw [State.stackLimits_setFrames]; rfl
  · rw [State.stackBytes_setFrames]; rfl
  · refine ⟨?_, Nat.le_refl _, Nat.le_refl _, ?_, ?_, fun a c9 h9 => ⟨c9, h9, rfl, rfl, fun _ _ => rfl⟩⟩
    · obtain ⟨t, ht, -⟩ := State.frames_cons hr
      show T.setVm s.vm = { ((T.setVm s.vm).setFrames (.invoking m args :: below)).setFrames (T.setVm s.vm).frames with heap := T.heap, slotsUsed := T.slotsUsed }
      rw [State.setFrames_setFrames, State.setFrames_self ht]
      rfl
    · show T.slotsUsed = T.slotsUsed + ((T.heap.toList.drop T.heap.size).map (·.slots.size)).sum
      rw [List.drop_eq_nil_of_le (Nat.le_of_eq Array.length_toList)]
      rfl
    · show ((T.heap.toList.drop T.heap.size).map (·.slots.size)).sum ≤ 0
      rw [List.drop_eq_nil_of_le (Nat.le_of_eq Array.length_toList)]
      exact Nat.le_refl _
/-- 'throw new E()': new; dup; invokespecial; athrow -/
theorem vx_throw0 {cc : ByteArray} {pc : Nat} (hexec : p.tables.exec = Jvm.exec) (hb : c.code = cc) (hl : l.stackTraces = false) {own cls : String} {names : List String} {ik ic mc ms : Nat} {A : Nat → Prop}
    (hown : s.vm.findClass own = some m.cls) (hcls : Bundle.fit cls = true) (hnames : ∀ n ∈ names, Bundle.fit n = true)
    (hk : (Cond.classLink own ik cls).before args s = true) (hini : (Cond.initialized cls).before args s = true) (hat : ∀ w ∈ vx_at0 own ic cls names, w.before args s = true)
    (hgood : ∀ w ∈ Cond.classLink own ik cls :: Cond.initialized cls :: vx_at0 own ic cls names, vx_ot w = true)
    (hU : vx_Zq Bundle.tN "UNASSIGNED_STACK" Bundle.steD A s s.heap) (hN : vx_Zq Bundle.tN "SUPPRESSED_SENTINEL" Bundle.listD A s s.heap) (hS : va_S A s.heap H locs) (hsize : ls.size = c.maxLocals)
    (d0 : decode cc pc = .ok (.new ik, 3)) (d3 : decode cc (pc + 3) = .ok (.dup, 1)) (d4 : decode cc (pc + 4) = .ok (.invokespecial ic, 3)) (d7 : decode cc (pc + 7) = .ok (.athrow, 1))
    (hout : ∀ x ∈ c.exceptionTable.toList, covers x (pc + 7) = false)
    (hRframes : names.length + 3 < R.frames) (hRlocals : (rest.map fun v => v.category).sum + (13 * (names.length + 1) + 42) ≤ R.locals) (hRcells : cells + 1 ≤ R.cells) (hRslots : slots + 6 ≤ R.slots) (hlocks : meth.locks = false)
    (hx : ∀ t : State, s.vm.Alike t.vm → H.size ≤ t.heap.size → (∀ q : Nat, q < H.size → t.heap[q]? = H[q]?) → XC cls s t)
    (hf : ∀ z ∈ locs, free z.base) (hc : cells + 1 ≤ mc) (hs : slots + 6 ≤ ms) :
    W p l e R s m args below meth c H locs cells slots (vx_MQ below Qc XC args s mc ms free) (F0 m pc ls rest) := by
  intro T hT X
  have htr : e.platform.stackTraces = false := (show e.platform.stackTraces = l.stackTraces by rw [X.admits.platform]).trans hl
  have Y := vx_rebase X (R' := { frames := R.frames, locals := R.locals, cells := 1, slots := 6 }) (Nat.le_refl _) (Nat.le_refl _) hRcells hRslots
  obtain ⟨s', hA⟩ : ∃ z, z = (T.setVm s.vm).setFrames (.invoking m args :: below) := ⟨_, rfl⟩
  rw [← hA] at Y
  have hvm : s'.vm = s.vm := by rw [hA]; rfl
  have hhp : s'.heap = H := by rw [hA]; exact hT
  have hW0 : s.WarmedH s'.vm := by rw [hvm]; exact State.WarmedH.refl s
  have hat' : ∀ w ∈ vx_at0 own ic cls names, w.before args s' = true := fun w hw => vx_ot_at hW0 hvm.symm (hgood w (List.mem_cons_of_mem _ (List.mem_cons_of_mem _ hw))) (hat w hw)
  have hk' : (Cond.classLink own ik cls).before args s' = true := vx_ot_at hW0 hvm.symm (hgood _ List.mem_cons_self) hk
  have hini' : (Cond.initialized cls).before args s' = true := vx_ot_at hW0 hvm.symm (hgood _ (List.mem_cons_of_mem _ List.mem_cons_self)) hini
  have hU' : vx_Zq Bundle.tN "UNASSIGNED_STACK" Bundle.steD A s' s'.heap := by rw [hhp]; exact vx_Zq.moved hW0.alike (hU.kept hS.2.1)
  have hN' : vx_Zq Bundle.tN "SUPPRESSED_SENTINEL" Bundle.listD A s' s'.heap := by rw [hhp]; exact vx_Zq.moved hW0.alike (hN.kept hS.2.1)
  have h : ∀ w ∈ Bundle.ownAtoms0 own ic cls names, w.before args s' = true := vx_own hat' (vx_isRefq hU'.1) (vx_isRefq hN'.1) hU'.2.word hN'.2.word
  have hown' : s'.vm.findClass own = some m.cls := by rw [hvm]; exact hown
  have hins : (Cond.instantiable cls 6).before args s' = true := h _ (by simp [Bundle.ownAtoms0])
  obtain ⟨vm₁, cX, kX, hfX, hkX, -, -, X₁, st1⟩ := Y.newCold hexec (own := own) (C := cls) (index := ik) (n := 6) hown' hk' hins hini'
    (g := F0 m pc ls rest) rfl (by rw [hb]; exact d0) (Nat.le_refl _) (Nat.le_refl _)
  generalize hT1 : (T.setVm vm₁).pushCell { cls := cX, slots := kX.instanceTypes.map defaultValue, vm := .none } = T1 at X₁ st1
  have hcat : (Value.ref T.heap.size).category = 1 := rfl
  have hcellA : T1.heap[T.heap.size]? = some (freshCell cX kX) := by rw [← hT1]; exact State.heap_pushCell_size _ _
  have d3' : decode c.code (pc + 3) = .ok (.dup, 1) := by rw [hb]; exact d3
  obtain ⟨U, hsteps, hrun, hend, hW, hsame, ce, hce, hO⟩ := X₁.ctorThrow0 hexec htr (own := own) (cls := cls) (names := names) (ic := ic) hown' hcls hnames h (fun x hx => nomatch hx) hfX hkX hcellA (by rw [hhp, hT]; exact Nat.le_refl _)
    (g := { method := m, pc := pc + 4, locals := ls, stack := .ref T.heap.size :: .ref T.heap.size :: rest, locked := none }) rfl hsize rfl rfl (rest := rest) rfl
    (by rw [hb]; exact d4) (by rw [hb]; exact d7) hout hRframes (by simp only [List.map_cons, List.sum_cons, hcat]; omega) hlocks
  obtain ⟨f1, f2⟩ := vx_frame hsame
  rw [hhp] at f1 f2
  have hWs : s.WarmedH U.vm := State.WarmedH.trans hW0 hW
  have hcl : s.vm.findClass cls = some ce.cls := by
    have h9 := hO.cls
    rw [hvm] at h9
    exact h9
  have hall : s.sameButNew ({ U with vm := s.vm } : State) locs mc ms := by
    subst hA
    obtain ⟨e1, e2⟩ := hsame
    rw [State.setFrames_setFrames] at e1
    have h2 : (T.setVm s.vm).sameButNew ({ U with vm := s.vm } : State) [] (0 + 1) (0 + 6) := ⟨e1, e2⟩
    have h3 := X.same.trans h2
    rw [List.append_nil] at h3
    exact h3.mono hc hs
  refine ⟨U, ?_, .threw T.heap.size, hrun, hend, Or.inr ⟨T.heap.size, rfl, cls, ce, locs, hx U hWs.alike f1 (fun q hq => f2 q hq (fun z hz => nomatch hz)), hce, hO.vm, hcl, hWs, hall, hf⟩⟩
  refine st1 _ ?_
  show Steps p.tables e below (T1.setTop { method := m, pc := pc + 3, locals := ls, stack := .ref T.heap.size :: rest, locked := none }) _
  jvm_step X₁.here [X₁.here.top, hexec, d3', Value.category]
  exact hsteps
/-- 'throw new E("text")': new; dup; ldc; invokespecial; athrow -/
theorem vx_throwS {cc : ByteArray} {pc : Nat} (hexec : p.tables.exec = Jvm.exec) (hb : c.code = cc) (hl : l.stackTraces = false) {own cls text : String} {names : List String} {ik is ic mc ms sa : Nat} {A : Nat → Prop}
    (hown : s.vm.findClass own = some m.cls) (hcls : Bundle.fit cls = true) (hnames : ∀ n ∈ names, Bundle.fit n = true)
    (hk : (Cond.classLink own ik cls).before args s = true) (hini : (Cond.initialized cls).before args s = true) (hstr : vk_R own is text sa s) (hat : ∀ w ∈ vx_atS own ic cls names, w.before args s = true)
    (hgood : ∀ w ∈ Cond.classLink own ik cls :: Cond.initialized cls :: vx_atS own ic cls names, vx_ot w = true)
    (hU : vx_Zq Bundle.tN "UNASSIGNED_STACK" Bundle.steD A s s.heap) (hN : vx_Zq Bundle.tN "SUPPRESSED_SENTINEL" Bundle.listD A s s.heap) (hS : va_S A s.heap H locs) (hsize : ls.size = c.maxLocals)
    (d0 : decode cc pc = .ok (.new ik, 3)) (d3 : decode cc (pc + 3) = .ok (.dup, 1)) (d4 : decode cc (pc + 4) = .ok (.ldc is, 2)) (d6 : decode cc (pc + 6) = .ok (.invokespecial ic, 3)) (d9 : decode cc (pc + 9) = .ok (.athrow, 1))
    (hout : ∀ x ∈ c.exceptionTable.toList, covers x (pc + 9) = false)
    (hRframes : names.length + 3 < R.frames) (hRlocals : (rest.map fun v => v.category).sum + (13 * (names.length + 1) + 43) ≤ R.locals) (hRcells : cells + 1 ≤ R.cells) (hRslots : slots + 6 ≤ R.slots) (hlocks : meth.locks = false)
    (hx : ∀ t : State, s.vm.Alike t.vm → H.size ≤ t.heap.size → (∀ q : Nat, q < H.size → t.heap[q]? = H[q]?) → XC cls s t)
    (hf : ∀ z ∈ locs, free z.base) (hc : cells + 1 ≤ mc) (hs : slots + 6 ≤ ms) :
    W p l e R s m args below meth c H locs cells slots (vx_MQ below Qc XC args s mc ms free) (F0 m pc ls rest) := by
  intro T hT X
  have htr : e.platform.stackTraces = false := (show e.platform.stackTraces = l.stackTraces by rw [X.admits.platform]).trans hl
  have Y := vx_rebase X (R' := { frames := R.frames, locals := R.locals, cells := 1, slots := 6 }) (Nat.le_refl _) (Nat.le_refl _) hRcells hRslots
  obtain ⟨s', hA⟩ : ∃ z, z = (T.setVm s.vm).setFrames (.invoking m args :: below) := ⟨_, rfl⟩
  rw [← hA] at Y
  have hvm : s'.vm = s.vm := by rw [hA]; rfl
  have hhp : s'.heap = H := by rw [hA]; exact hT
  have hW0 : s.WarmedH s'.vm := by rw [hvm]; exact State.WarmedH.refl s
  have hat' : ∀ w ∈ vx_atS own ic cls names, w.before args s' = true := fun w hw => vx_ot_at hW0 hvm.symm (hgood w (List.mem_cons_of_mem _ (List.mem_cons_of_mem _ hw))) (hat w hw)
  have hk' : (Cond.classLink own ik cls).before args s' = true := vx_ot_at hW0 hvm.symm (hgood _ List.mem_cons_self) hk
  have hini' : (Cond.initialized cls).before args s' = true := vx_ot_at hW0 hvm.symm (hgood _ (List.mem_cons_of_mem _ List.mem_cons_self)) hini
  have hU' : vx_Zq Bundle.tN "UNASSIGNED_STACK" Bundle.steD A s' s'.heap := by rw [hhp]; exact vx_Zq.moved hW0.alike (hU.kept hS.2.1)
  have hN' : vx_Zq Bundle.tN "SUPPRESSED_SENTINEL" Bundle.listD A s' s'.heap := by rw [hhp]; exact vx_Zq.moved hW0.alike (hN.kept hS.2.1)
  have h : ∀ w ∈ Bundle.ownAtoms own ic cls names, w.before args s' = true := vx_own hat' (vx_isRefq hU'.1) (vx_isRefq hN'.1) hU'.2.word hN'.2.word
  have hown' : s'.vm.findClass own = some m.cls := by rw [hvm]; exact hown
  have hins : (Cond.instantiable cls 6).before args s' = true := h _ (by simp [Bundle.ownAtoms])
  obtain ⟨vm₁, cX, kX, hfX, hkX, -, -, X₁, st1⟩ := Y.newCold hexec (own := own) (C := cls) (index := ik) (n := 6) hown' hk' hins hini'
    (g := F0 m pc ls rest) rfl (by rw [hb]; exact d0) (Nat.le_refl _) (Nat.le_refl _)
  generalize hT1 : (T.setVm vm₁).pushCell { cls := cX, slots := kX.instanceTypes.map defaultValue, vm := .none } = T1 at X₁ st1
  have hcat : (Value.ref T.heap.size).category = 1 := rfl
  have hcellA : T1.heap[T.heap.size]? = some (freshCell cX kX) := by rw [← hT1]; exact State.heap_pushCell_size _ _
  have d3' : decode c.code (pc + 3) = .ok (.dup, 1) := by rw [hb]; exact d3
  have d4' : decode c.code (pc + 4) = .ok (.ldc is, 2) := by rw [hb]; exact d4
  have hstr' : vk_R own is text sa s' := vk_R.warm hW0 hstr
  obtain ⟨U, hsteps, hrun, hend, hW, hsame, ce, hce, hO⟩ := X₁.ctorThrowS hexec htr (own := own) (cls := cls) (names := names) (ic := ic) hown' hcls hnames h (fun x hx => nomatch hx) hfX hkX hcellA (by rw [hhp, hT]; exact Nat.le_refl _) (msg := .ref sa) rfl
    (g := { method := m, pc := pc + 6, locals := ls, stack := .ref sa :: .ref T.heap.size :: .ref T.heap.size :: rest, locked := none }) rfl hsize rfl rfl (rest := rest) rfl
    (by rw [hb]; exact d6) (by rw [hb]; exact d9) hout hRframes (by simp only [List.map_cons, List.sum_cons, hcat]; omega) hlocks
  obtain ⟨f1, f2⟩ := vx_frame hsame
  rw [hhp] at f1 f2
  have hWs : s.WarmedH U.vm := State.WarmedH.trans hW0 hW
  have hcl : s.vm.findClass cls = some ce.cls := by
    have h9 := hO.cls
    rw [hvm] at h9
    exact h9
  have hall : s.sameButNew ({ U with vm := s.vm } : State) locs mc ms := by
    subst hA
    obtain ⟨e1, e2⟩ := hsame
    rw [State.setFrames_setFrames] at e1
    have h2 : (T.setVm s.vm).sameButNew ({ U with vm := s.vm } : State) [] (0 + 1) (0 + 6) := ⟨e1, e2⟩
    have h3 := X.same.trans h2
    rw [List.append_nil] at h3
    exact h3.mono hc hs
  refine ⟨U, ?_, .threw T.heap.size, hrun, hend, Or.inr ⟨T.heap.size, rfl, cls, ce, locs, hx U hWs.alike f1 (fun q hq => f2 q hq (fun z hz => nomatch hz)), hce, hO.vm, hcl, hWs, hall, hf⟩⟩
  refine st1 _ ?_
  show Steps p.tables e below (T1.setTop { method := m, pc := pc + 3, locals := ls, stack := .ref T.heap.size :: rest, locked := none }) _
  jvm_step X₁.here [X₁.here.top, hexec, d3', Value.category]
  exact X₁.ldcString hexec (own := own) (text := text) (index := is) (a := sa) hown' hstr'.1 hstr'.2
    (g := { method := m, pc := pc + 4, locals := ls, stack := .ref T.heap.size :: .ref T.heap.size :: rest, locked := none }) rfl d4' _ hsteps
/-- 'throw new E("text")', the text by a wide index -/
theorem vx_throwSW {cc : ByteArray} {pc : Nat} (hexec : p.tables.exec = Jvm.exec) (hb : c.code = cc) (hl : l.stackTraces = false) {own cls text : String} {names : List String} {ik is ic mc ms sa : Nat} {A : Nat → Prop}
    (hown : s.vm.findClass own = some m.cls) (hcls : Bundle.fit cls = true) (hnames : ∀ n ∈ names, Bundle.fit n = true)
    (hk : (Cond.classLink own ik cls).before args s = true) (hini : (Cond.initialized cls).before args s = true) (hstr : vk_R own is text sa s) (hat : ∀ w ∈ vx_atS own ic cls names, w.before args s = true)
    (hgood : ∀ w ∈ Cond.classLink own ik cls :: Cond.initialized cls :: vx_atS own ic cls names, vx_ot w = true)
    (hU : vx_Zq Bundle.tN "UNASSIGNED_STACK" Bundle.steD A s s.heap) (hN : vx_Zq Bundle.tN "SUPPRESSED_SENTINEL" Bundle.listD A s s.heap) (hS : va_S A s.heap H locs) (hsize : ls.size = c.maxLocals)
    (d0 : decode cc pc = .ok (.new ik, 3)) (d3 : decode cc (pc + 3) = .ok (.dup, 1)) (d4 : decode cc (pc + 4) = .ok (.ldc_w is, 3)) (d7 : decode cc (pc + 7) = .ok (.invokespecial ic, 3)) (d10 : decode cc (pc + 10) = .ok (.athrow, 1))
    (hout : ∀ x ∈ c.exceptionTable.toList, covers x (pc + 10) = false)
    (hRframes : names.length + 3 < R.frames) (hRlocals : (rest.map fun v => v.category).sum + (13 * (names.length + 1) + 43) ≤ R.locals) (hRcells : cells + 1 ≤ R.cells) (hRslots : slots + 6 ≤ R.slots) (hlocks : meth.locks = false)
    (hx : ∀ t : State, s.vm.Alike t.vm → H.size ≤ t.heap.size → (∀ q : Nat, q < H.size → t.heap[q]? = H[q]?) → XC cls s t)
    (hf : ∀ z ∈ locs, free z.base) (hc : cells + 1 ≤ mc) (hs : slots + 6 ≤ ms) :
    W p l e R s m args below meth c H locs cells slots (vx_MQ below Qc XC args s mc ms free) (F0 m pc ls rest) := by
  intro T hT X
  have htr : e.platform.stackTraces = false := (show e.platform.stackTraces = l.stackTraces by rw [X.admits.platform]).trans hl
  have Y := vx_rebase X (R' := { frames := R.frames, locals := R.locals, cells := 1, slots := 6 }) (Nat.le_refl _) (Nat.le_refl _) hRcells hRslots
  obtain ⟨s', hA⟩ : ∃ z, z = (T.setVm s.vm).setFrames (.invoking m args :: below) := ⟨_, rfl⟩
  rw [← hA] at Y
  have hvm : s'.vm = s.vm := by rw [hA]; rfl
  have hhp : s'.heap = H := by rw [hA]; exact hT
  have hW0 : s.WarmedH s'.vm := by rw [hvm]; exact State.WarmedH.refl s
  have hat' : ∀ w ∈ vx_atS own ic cls names, w.before args s' = true := fun w hw => vx_ot_at hW0 hvm.symm (hgood w (List.mem_cons_of_mem _ (List.mem_cons_of_mem _ hw))) (hat w hw)
  have hk' : (Cond.classLink own ik cls).before args s' = true := vx_ot_at hW0 hvm.symm (hgood _ List.mem_cons_self) hk
  have hini' : (Cond.initialized cls).before args s' = true := vx_ot_at hW0 hvm.symm (hgood _ (List.mem_cons_of_mem _ List.mem_cons_self)) hini
  have hU' : vx_Zq Bundle.tN "UNASSIGNED_STACK" Bundle.steD A s' s'.heap := by rw [hhp]; exact vx_Zq.moved hW0.alike (hU.kept hS.2.1)
  have hN' : vx_Zq Bundle.tN "SUPPRESSED_SENTINEL" Bundle.listD A s' s'.heap := by rw [hhp]; exact vx_Zq.moved hW0.alike (hN.kept hS.2.1)
  have h : ∀ w ∈ Bundle.ownAtoms own ic cls names, w.before args s' = true := vx_own hat' (vx_isRefq hU'.1) (vx_isRefq hN'.1) hU'.2.word hN'.2.word
  have hown' : s'.vm.findClass own = some m.cls := by rw [hvm]; exact hown
  have hins : (Cond.instantiable cls 6).before args s' = true := h _ (by simp [Bundle.ownAtoms])
  obtain ⟨vm₁, cX, kX, hfX, hkX, -, -, X₁, st1⟩ := Y.newCold hexec (own := own) (C := cls) (index := ik) (n := 6) hown' hk' hins hini'
    (g := F0 m pc ls rest) rfl (by rw [hb]; exact d0) (Nat.le_refl _) (Nat.le_refl _)
  generalize hT1 : (T.setVm vm₁).pushCell { cls := cX, slots := kX.instanceTypes.map defaultValue, vm := .none } = T1 at X₁ st1
  have hcat : (Value.ref T.heap.size).category = 1 := rfl
  have hcellA : T1.heap[T.heap.size]? = some (freshCell cX kX) := by rw [← hT1]; exact State.heap_pushCell_size _ _
  have d3' : decode c.code (pc + 3) = .ok (.dup, 1) := by rw [hb]; exact d3
  have d4' : decode c.code (pc + 4) = .ok (.ldc_w is, 3) := by rw [hb]; exact d4
  have hstr' : vk_R own is text sa s' := vk_R.warm hW0 hstr
  obtain ⟨U, hsteps, hrun, hend, hW, hsame, ce, hce, hO⟩ := X₁.ctorThrowS hexec htr (own := own) (cls := cls) (names := names) (ic := ic) hown' hcls hnames h (fun x hx => nomatch hx) hfX hkX hcellA (by rw [hhp, hT]; exact Nat.le_refl _) (msg := .ref sa) rfl
    (g := { method := m, pc := pc + 7, locals := ls, stack := .ref sa :: .ref T.heap.size :: .ref T.heap.size :: rest, locked := none }) rfl hsize rfl rfl (rest := rest) rfl
    (by rw [hb]; exact d7) (by rw [hb]; exact d10) hout hRframes (by simp only [List.map_cons, List.sum_cons, hcat]; omega) hlocks
  obtain ⟨f1, f2⟩ := vx_frame hsame
  rw [hhp] at f1 f2
  have hWs : s.WarmedH U.vm := State.WarmedH.trans hW0 hW
  have hcl : s.vm.findClass cls = some ce.cls := by
    have h9 := hO.cls
    rw [hvm] at h9
    exact h9
  have hall : s.sameButNew ({ U with vm := s.vm } : State) locs mc ms := by
    subst hA
    obtain ⟨e1, e2⟩ := hsame
    rw [State.setFrames_setFrames] at e1
    have h2 : (T.setVm s.vm).sameButNew ({ U with vm := s.vm } : State) [] (0 + 1) (0 + 6) := ⟨e1, e2⟩
    have h3 := X.same.trans h2
    rw [List.append_nil] at h3
    exact h3.mono hc hs
  refine ⟨U, ?_, .threw T.heap.size, hrun, hend, Or.inr ⟨T.heap.size, rfl, cls, ce, locs, hx U hWs.alike f1 (fun q hq => f2 q hq (fun z hz => nomatch hz)), hce, hO.vm, hcl, hWs, hall, hf⟩⟩
  refine st1 _ ?_
  show Steps p.tables e below (T1.setTop { method := m, pc := pc + 3, locals := ls, stack := .ref T.heap.size :: rest, locked := none }) _
  jvm_step X₁.here [X₁.here.top, hexec, d3', Value.category]
  exact X₁.ldcStringW hexec (own := own) (text := text) (index := is) (a := sa) hown' hstr'.1 hstr'.2
    (g := { method := m, pc := pc + 4, locals := ls, stack := .ref T.heap.size :: .ref T.heap.size :: rest, locked := none }) rfl d4' _ hsteps
end Ends
section Bodies
variable {l : Launch}
theorem vx_ofW {y : MethodName} {ws ws' : List Cond} {rm : Room} {Pc : Array Value → State → Prop} {Qc : Array Value → State → Outcome → State → Prop} {XC : String → State → State → Prop} {mc ms : Nat} {free : Addr → Prop} {cc : ByteArray} {maxL : Nat} {ret : Option FieldType}
    (hy : plainName y.cls = true) (hw : ws = Cond.code y cc maxL ret :: ws')
    (body : ∀ p e s m args below meth c s₁, BodyLoose p l y (headSpec ws rm) cc maxL ret e s m args below meth c s₁ → c.maxLocals = maxL → (∀ x ∈ c.exceptionTable.toList, False) → Pc args s →
      W p l e (headSpec ws rm).room s m args below meth c s.heap [] 0 0 (vx_MQ below Qc XC args s mc ms free) (entryFrame m args maxL)) : vx_Met l y ws rm Pc Qc XC mc ms free := by
  refine MetFree.of_bodyS (code := cc) (maxLocals := maxL) (ret := ret) hy ?_ ?_
  · intro args s m h hn
    obtain ⟨meth, c, h1, h2, h3, h4, h5, h6, -, -⟩ := Cond.code_spec hn (atoms_spec (ws := ws) h _ (by rw [hw]; exact List.mem_cons_self))
    exact ⟨meth, c, h1, h2, h3, h4, h5, h6⟩
  · intro p e s m args below meth c s₁ B hml hP _
    have hh0 : s₁.heap = s.heap := by rw [B.state]; rfl
    have ht : ∀ x ∈ c.exceptionTable.toList, False := by
      obtain ⟨meth9, c9, h1, h2, -, -, -, -, h7, -⟩ := Cond.code_spec B.named (atoms_spec (ws := ws) B.pre _ (by rw [hw]; exact List.mem_cons_self))
      cases Option.some.inj (h1.symm.trans B.method)
      cases Option.some.inj (h2.symm.trans (Stand.of_body B).code)
      intro x hx
      rw [Array.isEmpty_iff.mp h7] at hx
      cases hx
    obtain ⟨t, a1, o, b1, b2, b3⟩ := body p e s m args below meth c s₁ B hml ht hP s₁ hh0 (Stand.of_body B)
    exact ⟨t, o, a1, b1, b2, b3⟩
/-- the table of a body with handlers -/
theorem vx_table {p : Program} {x y : MethodName} {S : Spec} {cc bytes : ByteArray} {maxL maxL' : Nat} {ret ret' : Option FieldType} {e : Env} {s s₁ : State} {m : MethodId} {args : Array Value} {below : List Frame} {meth : Method} {c : Code} {hh : List (Nat × Nat × Nat × Nat)}
    (B : BodyLoose p l y S cc maxL ret e s m args below meth c s₁) (h : (Cond.codeWith y bytes maxL' ret' hh).before args s = true) : c.exceptionTable.toList = tableOf hh := by
  obtain ⟨m9, meth9, c9, hn9, h1, h2, -, -, h6, -⟩ := Cond.codeWith_spec h
  cases Option.some.inj (hn9.symm.trans B.named)
  cases Option.some.inj (h1.symm.trans B.method)
  cases Option.some.inj (h2.symm.trans (Stand.of_body B).code)
  rw [← h6, table_eq]
end Bodies
end VXA
/-! ===== END ===== -/
/-! ===== BEGIN a static call of a method with an exception table ===== -/
section VXS
variable {p : Program} {l : Launch} {e : Env} {R : Room} {s : State} {m : MethodId} {args : Array Value} {below : List Frame} {meth : Method} {c : Code} {T : State} {H : Heap} {locs : List Loc} {cells slots : Nat}
abbrev vx_CSW (R : Room) (s : State) (args : Array Value) (own : String) (index : Nat) (y : MethodName) (bytes : ByteArray) (maxL : Nat) (ret : Option FieldType) (hh : List (Nat × Nat × Nat × Nat)) (ws : List Cond) (rm : Room) (mc ms n : Nat) : Prop :=
  (rm.cells = mc ∧ rm.slots = ms ∧ rm.frames + 1 ≤ R.frames ∧ 8 + (maxL + 11) + rm.locals ≤ R.locals ∧ (∀ w ∈ ws, ∀ (a' : Array Value) (U : State), s.WarmedH U.vm → w.before a' U = true) ∧ Cond.codeWith y bytes maxL ret hh ∈ ws) ∧
  (Cond.codeWith y bytes maxL ret hh).before args s = true ∧ (Cond.initialized y.cls).before args s = true ∧ (y.cls ≠ "java/lang/invoke/MethodHandle" ∧ y.cls ≠ "java/lang/invoke/VarHandle") ∧
  (∀ sig, parseMethodDescriptor y.desc = some sig → n = sig.parameters.length) ∧ (Cond.methodLink own index y).before args s = true ∧ (Cond.static y).before args s = true
theorem vx_cwSW {own : String} {index maxL mc ms : Nat} {y : MethodName} {bytes : ByteArray} {ret : Option FieldType} {hh : List (Nat × Nat × Nat × Nat)} {Ts ws ws' : List Cond} {rm : Room} (n : Nat) (ht : ∀ w ∈ Ts, w.before args s = true) (hT : GoodIn Ts (va_wsS own index y ws)) (hw : ws = Cond.codeWith y bytes maxL ret hh :: ws') (hrc : rm.cells = mc) (hrs : rm.slots = ms)
    (hd : y.cls ≠ "java/lang/invoke/MethodHandle" ∧ y.cls ≠ "java/lang/invoke/VarHandle" ∧ (parseMethodDescriptor y.desc).map (fun d => d.parameters.length) = some n) (hR : rm.frames + 1 ≤ R.frames ∧ 8 + (maxL + 11) + rm.locals ≤ R.locals) :
    vx_CSW R s args own index y bytes maxL ret hh ws rm mc ms n := by
  have ok : ∀ w ∈ va_wsS own index y ws, w.before args s = true := fun w h => ht w (hT w h).1
  have hG : GoodIn Ts ws := fun w h => hT w (by unfold va_wsS; exact List.mem_append_right _ h)
  have hc : Cond.codeWith y bytes maxL ret hh ∈ ws := by rw [hw]; exact List.mem_cons_self
  refine ⟨⟨hrc, hrs, hR.1, hR.2, pay_in ht hG, hc⟩, ht _ (hG _ hc).1, ok _ (by simp [va_wsS]), ⟨hd.1, hd.2.1⟩, fun sig h => ?_, ok _ (by simp [va_wsS]), ok _ (by simp [va_wsS])⟩
  have h2 := hd.2.2
  rw [h] at h2
  exact (Option.some.inj h2).symm
theorem vx_callSW (X : Stand p l e R s m args below meth c T locs cells slots) (hexec : p.tables.exec = Jvm.exec) {own : String} {index : Nat} {y : MethodName} {bytes : ByteArray} {maxL : Nat} {ret : Option FieldType} {hh : List (Nat × Nat × Nat × Nat)}
    (hown : s.vm.findClass own = some m.cls) (hlink : (Cond.methodLink own index y).before args s = true) (hstat : (Cond.static y).before args s = true) (hinit : (Cond.initialized y.cls).before args s = true)
    (hcode : (Cond.codeWith y bytes maxL ret hh).before args s = true) (hy : y.cls ≠ "java/lang/invoke/MethodHandle" ∧ y.cls ≠ "java/lang/invoke/VarHandle")
    {W9 : Nat} {Pre : Pt → Array Value → Prop} {Post : Pt → Array Value → Option Value → Pt → Prop} (hK : Back l R p e below s args y 3 W9 Pre Post)
    {g : JFrame} (hg : g.method = m) (hsize : g.locals.size = c.maxLocals) {argsL rest : List Value} (hlen : ∀ sig, parseMethodDescriptor y.desc = some sig → argsL.length = sig.parameters.length)
    (hstack : g.stack = argsL.reverse ++ rest) (hW : 2 * g.monitorRoom + (rest.map fun v => v.category).sum ≤ W9) (hdg : decode c.code g.pc = .ok (.invokestatic index, 3))
    (hpre : ∀ vm₁, s.WarmedH vm₁ → Pre ⟨T.setVm vm₁, locs, cells, slots⟩ argsL.toArray) :
    ∃ (v : Option Value) (vm₁ : Vm) (B : Pt), s.WarmedH vm₁ ∧ Stand p l e R s m args below meth c B.U B.locs B.cells B.slots ∧ Post ⟨T.setVm vm₁, locs, cells, slots⟩ argsL.toArray v B ∧
      ∀ target, Steps p.tables e below (B.U.setTop { g with pc := g.pc + 3, stack := v.toList ++ rest }) target → Steps p.tables e below (T.setTop g) target := by
  obtain ⟨mk, methM, cM, hnamed, hmethM, -, -, -, -, -, -, hsigM⟩ := Cond.codeWith_spec hcode
  have hstatic : methM.isStatic = true := Cond.static_spec hnamed hmethM hstat
  obtain ⟨kP, hkP, -⟩ := className_of_methodNamed hnamed
  have hinitP : kP.init = .initialized := Cond.initialized_spec (findClass_of_methodNamed hnamed) hkP hinit
  obtain ⟨vm₁, X₁, hstep₁⟩ := X.invokestatic hexec hown hlink hnamed hmethM hstatic hkP hinitP hy (g := g) hg (argsL := argsL) (rest := rest) (hlen _ hsigM) hstack hdg
  obtain ⟨v, B, X', hpost, hsteps⟩ := hK m meth c ⟨T.setVm vm₁, locs, cells, slots⟩ { g with stack := rest } (.invokestatic index) mk argsL.toArray X₁ hg hsize hdg hW (X₁.named hnamed) (hpre vm₁ X₁.warmed)
  exact ⟨v, vm₁, B, X₁.warmed, X', hpost, fun target h => hstep₁ _ fun acts => by rw [doInvoke_state]; exact hsteps.trans h⟩
theorem vx_runSW {y : MethodName} {bytes cc : ByteArray} {maxL nL mc ms n index : Nat} {ret : Option FieldType} {hh : List (Nat × Nat × Nat × Nat)} {ws : List Cond} {rm : Room} {Pc : Array Value → State → Prop} {Qc : Array Value → State → Outcome → State → Prop} {free : Addr → Prop} {Ts : List Cond} {own : String} {As rest : List Value} {g : JFrame}
    (S : CallFix p m c cc nL s args Ts own) (hM : Met l y ws rm Pc Qc mc ms free) (cw : vx_CSW R s args own index y bytes maxL ret hh ws rm mc ms n) (hp : PreS s H Pc As)
    (hg : g.method = m) (hn : As.length = n) (hsize : g.locals.size = nL) (hstack : g.stack = As.reverse ++ rest) (hW : 2 * g.monitorRoom + (rest.map fun v => v.category).sum ≤ 8) (hdg : decode cc g.pc = .ok (.invokestatic index, 3)) (hf : cells + mc ≤ R.cells ∧ slots + ms ≤ R.slots) :
    va_Run p l e R s m args below meth c H locs cells slots mc ms g rest (Qc As.toArray) (free) := by
  obtain ⟨⟨hrc, hrs, hfr, hlo, hws, hcw⟩, hcode, hini, hy, hlen, hl, hstt⟩ := cw
  have hK : Back l R p e below s args y 3 8 (PreOf R mc ms Pc) (PostOf Qc mc ms free) := va_backW (hh := hh) (bytes := bytes) (maxL := maxL) (ret := ret) hM hp.1 hrc hrs hfr hlo hws hcw (fun a' U hW => word_at hW (Or.inl (by first | rfl | simp [Cond.onTables, Cond.keeps, Cond.steady])) hini)
  obtain ⟨hx, hb, hml, ho, -⟩ := S
  intro T hT X
  obtain ⟨v, vm₁, ⟨U', l2, c2, s2⟩, hW₁, X', ⟨g', mk, t, L, e1, e2, hq, h1, hL, h2, h3⟩, st⟩ := vx_callSW X hx (hh := hh) (bytes := bytes) (maxL := maxL) (ret := ret) ho hl hstt hini hcode hy hK hg (hsize.trans hml.symm) (argsL := As) (rest := rest) (fun sig h => hn.trans (hlen sig h)) hstack hW (by rw [hb]; exact hdg)
    (fun vm₁ hW₁ => ⟨hf.1, hf.2, hp.2 (T.setVm vm₁) hT hW₁⟩)
  dsimp only [Pt.U, Pt.locs, Pt.cells, Pt.slots] at X' e1 e2 h1 h2 h3 st
  subst h1; subst h2; subst h3
  exact ⟨v, (T.setVm vm₁).calling g' mk As.toArray, t, U', L, hT, X', hL, e1, e2, hq, st⟩
/-- not caught here, past rows that name other classes: it goes on to the caller -/
theorem vx_outP {p : Program} {l : Launch} {e : Env} {R : Room} {s : State} {m : MethodId} {args : Array Value} {below : List Frame} {meth : Method} {c : Code} {H : Heap} {locs : List Loc} {cells slots : Nat} {free : Addr → Prop} {ls : Array Slot} {rest : List Value} {Qc : Array Value → State → Outcome → State → Prop} {XC : String → State → State → Prop}
    {pc : Nat} {own E : String} {ce : Cell} {q : Addr} {mc ms : Nat} (hown : s.vm.findClass own = some m.cls) (hlocks : meth.locks = false)
    (hpass : ∀ z ∈ c.exceptionTable.toList, covers z pc = false ∨ (z.catchType ≠ 0 ∧ ∃ nm : String, (Cond.classLink own z.catchType nm).before args s = true ∧ va_Nc E nm s)) (hcell : H[q]? = some ce) (hv : ce.vm = .none) (hcl : s.vm.findClass E = some ce.cls)
    (hx : ∀ t : State, t.heap = H → s.vm.Alike t.vm → XC E s t) (hf : ∀ z ∈ locs, free z.base) (hc : cells ≤ mc) (hs : slots ≤ ms) :
    vx_W p l e R s m args below meth c H locs cells slots (vx_MQ below Qc XC args s mc ms free) (F0 m pc ls rest) q := by
  intro T hT X
  have hpl : e.platform.magicAccessors = ({} : Platform).magicAccessors := by rw [X.admits.platform]
  obtain ⟨vm', hW', X', st⟩ := X.outThrough hlocks q (g := F0 m pc ls rest) rfl rfl rfl (cell := ce) (by rw [hT]; exact hcell) (by rw [hv]; rfl)
    (by obtain ⟨k9, h9, -⟩ := Vm.findClass_spec hcl; exact ⟨k9, h9⟩) (fun z hz => by
      rcases hpass z hz with h | ⟨hz0, nm, hl1, hn1⟩
      · exact Or.inl h
      · obtain ⟨c6, hc6, hcl6⟩ := Cond.classLink_spec hown hl1 e.platform hpl
        obtain ⟨a8, b8, h1, h2, h3⟩ := hn1
        cases Option.some.inj (h1.symm.trans hcl)
        cases Option.some.inj (h2.symm.trans hc6)
        exact Or.inr ⟨hz0, _, hcl6, h3⟩)
  obtain ⟨g₀, hfr⟩ := X'.frames_eq
  have hcell9 : ((T.setVm vm').setFrames (.throwing q :: below)).heap[q]? = some ce := by
    show T.heap[q]? = some ce
    rw [hT]; exact hcell
  have hend : Ended ((T.setVm vm').setFrames (.throwing q :: below)) below (.threw q) := State.frames_setFrames _ (State.cur_lt_of_frames hfr)
  refine ⟨(T.setVm vm').setFrames (.throwing q :: below), ?_, .threw q, X'.here.running, hend, Or.inr ⟨q, rfl, E, ce, locs, hx _ hT (X'.ends _).1.alike, hcell9, hv, hcl, (X'.ends _).1, (X'.ends _).2.mono hc hs, hf⟩⟩
  rw [X.pushThrowing_eq]
  exact st
/-- a thing of a world lies in the heap -/
theorem vx_lt {D : va_G} {cl : List vw_C} {ws : va_W} {H1 : Heap} (h : va_P D cl ws H1) {k : Nat} {q : Nat × va_E} (hk : ws[k]? = some q) : q.1 < H1.size := (h k q hk).lt
end VXS
/-! ===== END ===== -/
/-! ===== BEGIN methods with a table of their own: called by a name, returning or throwing ===== -/
section VXH
/-! vx_backW, vx_callVX, vx_callSX, vx_callVW, vx_runVW, vx_runVX, vx_runSX, vx_ofWH follow the same proofs as their sisters above (Free/Laws.lean, Shelf42/LK1.lean); vx_outP calls Shelf42/NT130.lean (outThrough). -/
section
variable {l : Launch} {R : Room} {p : Program} {e : Env} {below : List Frame} {s : State} {sargs : Array Value} {y : MethodName} {len W9 : Nat}
theorem vx_backW {ws : List Cond} {rm : Room} {Pc : Array Value → State → Prop} {Qc : Array Value → State → Outcome → State → Prop} {XC : String → State → State → Prop} {mc ms : Nat} {free : Addr → Prop} {bytes : ByteArray} {maxL : Nat} {ret : Option FieldType} {hh : List (Nat × Nat × Nat × Nat)}
    (hM : vx_Met l y ws rm Pc Qc XC mc ms free) (hblind : FrameBlind Pc) (hrc : rm.cells = mc) (hrs : rm.slots = ms)
    (hframes : rm.frames + 1 ≤ R.frames) (hlocals : W9 + (maxL + 11) + rm.locals ≤ R.locals)
    (hws : ∀ w ∈ ws, ∀ a' U, s.WarmedH U.vm → w.before a' U = true) (hcode : Cond.codeWith y bytes maxL ret hh ∈ ws) (hinit : ∀ a' U, s.WarmedH U.vm → (Cond.initialized y.cls).before a' U = true) :
    vx_Back l R p e below s sargs y len W9 (PreOf R mc ms Pc) (PostOf Qc mc ms free) (vx_Post XC mc ms free) := by
  intro m meth c A g ig mk a X hg hsize hdg hW hn hp
  have h1 : (headSpec ws rm).pre.before a A.U = true := atoms_intro fun w hw => hws w hw _ _ X.warmed
  have h2 : (Cond.codeWith y bytes maxL ret hh).before a A.U = true := hws _ hcode _ _ X.warmed
  have h3 : (Cond.initialized y.cls).before a A.U = true := hinit _ _ X.warmed
  have h4 : A.cells + (headSpec ws rm).room.cells ≤ R.cells := by rw [show (headSpec ws rm).room.cells = mc from hrc]; exact hp.1
  have h5 : A.slots + (headSpec ws rm).room.slots ≤ R.slots := by rw [show (headSpec ws rm).room.slots = ms from hrs]; exact hp.2.1
  have hPc : Pc a (A.U.calling g mk a) := hblind _ _ _ _ hp.2.2
  obtain ⟨U, Ls, c0, s0⟩ := A
  dsimp only [Pt.U, Pt.locs, Pt.cells, Pt.slots] at h1 h2 h3 h4 h5 X hn hPc ⊢
  obtain ⟨m9, methY, cY, hn9, hmY, hcY, -, hlY, -⟩ := Cond.codeWith_spec h2
  cases Option.some.inj (hn9.symm.trans hn)
  obtain ⟨kY, hkY, -⟩ := className_of_methodNamed hn
  have hinitY : kY.init = .initialized := Cond.initialized_spec (findClass_of_methodNamed hn) hkY h3
  have h : At U g.method c below := by rw [hg]; exact X.here
  have hlocals9 : W9 + (maxL + 11) + (headSpec ws rm).room.locals ≤ R.locals := hlocals
  have happ : (headSpec ws rm).appliesLoose y e.platform (U.calling g mk a) = true :=
    Spec.appliesLoose_calling (g := g) h hdg hn hkY hinitY
      (X.room_calling (g := g) (R' := (headSpec ws rm).room) hsize hmY hcY hframes (by rw [hlY]; omega) h4 h5) h1
  obtain ⟨mid, hmid⟩ := h.above
  have hfr : (U.setTop g).frames = (.java g :: mid) ++ below := by rw [State.frames_setTop' g h.top, hmid]; rfl
  obtain ⟨o, s₂, hsteps, -, hend, hq⟩ := Steps.callFree hM p X.admits X.cas X.clock (acts := []) hfr happ hPc trivial
  have hq' : vx_Q Qc XC mc ms free a (U.calling g mk a) o s₂ := hq
  rw [State.frames_setTop' g h.top] at hend
  obtain ⟨g₀, hg0⟩ := Option.isSome_iff_exists.mp h.top
  obtain ⟨r, hr⟩ := State.topJava?_eq_some.mp hg0
  have hr' : (({ U with heap := s₂.heap, slotsUsed := s₂.slotsUsed } : State).setVm s₂.vm).frames = .java g₀ :: r := hr
  rcases hq' with ⟨hqc, L, hfe, hL⟩ | ⟨q, rfl, E, ce, L, hx, hce, hcv, hcl, hW₂, hsm, hL⟩
  · obtain ⟨⟨v, rfl⟩, hW₂, e2, q2, q3, q4, q5, q6⟩ := id hfe
    have e3 : s₂ = ({ (U.calling g mk a).setFrames s₂.frames with heap := s₂.heap, slotsUsed := s₂.slotsUsed } : State).setVm s₂.vm := by
      have : s₂ = ({ s₂ with vm := (U.calling g mk a).vm } : State).setVm s₂.vm := rfl
      rw [e2] at this
      exact this
    obtain ⟨c₂, i₂, len₂, hc₂, hd₂, hf₂⟩ := hend
    have hW' : U.WarmedH s₂.vm := hW₂
    have hcc : c₂ = c := by
      have h1 : s₂.code? g.method = U.code? g.method := by
        rw [State.code?_eq, State.code?_eq, hW'.alike.method?]
      exact Option.some.inj (hc₂.symm.trans (h1.trans h.code))
    subst hcc
    have hlen : len₂ = len := by rw [hdg] at hd₂; cases hd₂; rfl
    subst hlen
    have hs₂ : s₂ = (({ U with heap := s₂.heap, slotsUsed := s₂.slotsUsed } : State).setVm s₂.vm).setTop { g with pc := g.pc + len₂, stack := v.toList ++ g.stack } := by
      refine e3.trans ?_
      rw [hf₂, State.calling_eq h.top, State.setFrames_setFrames, State.setTop_of_frames _ hr', hr]
      rfl
    have hsame : U.sameButNew ({ U with heap := s₂.heap, slotsUsed := s₂.slotsUsed } : State) L mc ms := by
      refine ⟨?_, q2, q3, q4, q5, q6⟩
      obtain ⟨t, ht, -⟩ := State.frames_cons hr
      show ({ U with heap := s₂.heap, slotsUsed := s₂.slotsUsed } : State) = { U.setFrames U.frames with heap := s₂.heap, slotsUsed := s₂.slotsUsed }
      rw [State.setFrames_self ht]
    subst hg
    refine Or.inl ⟨v, ⟨(({ U with heap := s₂.heap, slotsUsed := s₂.slotsUsed } : State).setVm s₂.vm), Ls ++ L, c0 + mc, s0 + ms⟩,
      ⟨X.admits, X.cas, X.clock, X.frames, X.room, X.hears, X.method, X.code, (X.here.setHeapUsed s₂.heap s₂.slotsUsed).setVm hW'.alike, X.tail, State.WarmedH.trans X.warmed hW', X.limits, X.bytes, X.same.trans (hsame.setVm s.vm)⟩,
      ⟨g, mk, s₂, L, rfl, rfl, hqc, rfl, hL, rfl, rfl⟩, ?_⟩
    show Steps p.tables e below _ ((({ U with heap := s₂.heap, slotsUsed := s₂.slotsUsed } : State).setVm s₂.vm).setTop { g with pc := g.pc + len₂, stack := v.toList ++ g.stack })
    rw [← hs₂]
    exact hsteps
  · obtain ⟨e2, q2, q3, q4, q5, q6⟩ := id hsm
    have e3 : s₂ = ({ (U.calling g mk a).setFrames s₂.frames with heap := s₂.heap, slotsUsed := s₂.slotsUsed } : State).setVm s₂.vm := by
      have : s₂ = ({ s₂ with vm := (U.calling g mk a).vm } : State).setVm s₂.vm := rfl
      rw [e2] at this
      exact this
    have hf₂ : s₂.frames = .throwing q :: .java g :: U.frames.tail := hend
    have hW' : U.WarmedH s₂.vm := hW₂
    have hs₂ : s₂ = ((({ U with heap := s₂.heap, slotsUsed := s₂.slotsUsed } : State).setVm s₂.vm).setTop g).pushFrame (.throwing q) := by
      refine e3.trans ?_
      rw [hf₂, State.calling_eq h.top, State.setFrames_setFrames, State.pushFrame, State.frames_setTop _ hr', State.setTop_of_frames _ hr', State.setFrames_setFrames, hr]
      rfl
    have hsame : U.sameButNew ({ U with heap := s₂.heap, slotsUsed := s₂.slotsUsed } : State) L mc ms := by
      refine ⟨?_, q2, q3, q4, q5, q6⟩
      obtain ⟨t, ht, -⟩ := State.frames_cons hr
      show ({ U with heap := s₂.heap, slotsUsed := s₂.slotsUsed } : State) = { U.setFrames U.frames with heap := s₂.heap, slotsUsed := s₂.slotsUsed }
      rw [State.setFrames_self ht]
    subst hg
    refine Or.inr ⟨q, ⟨(({ U with heap := s₂.heap, slotsUsed := s₂.slotsUsed } : State).setVm s₂.vm), Ls ++ L, c0 + mc, s0 + ms⟩,
      ⟨X.admits, X.cas, X.clock, X.frames, X.room, X.hears, X.method, X.code, (X.here.setHeapUsed s₂.heap s₂.slotsUsed).setVm hW'.alike, X.tail, State.WarmedH.trans X.warmed hW', X.limits, X.bytes, X.same.trans (hsame.setVm s.vm)⟩,
      ⟨g, mk, s₂, L, E, ce, rfl, rfl, hx, hce, hcv, hcl, rfl, hL, rfl, rfl⟩, ?_⟩
    show Steps p.tables e below _ (((({ U with heap := s₂.heap, slotsUsed := s₂.slotsUsed } : State).setVm s₂.vm).setTop g).pushFrame (.throwing q))
    rw [← hs₂]
    exact hsteps
end
variable {p : Program} {l : Launch} {e : Env} {R : Room} {s : State} {m : MethodId} {args : Array Value} {below : List Frame} {meth : Method} {c : Code} {T : State} {H : Heap} {locs : List Loc} {cells slots : Nat}
theorem vx_callVX (X : Stand p l e R s m args below meth c T locs cells slots) (hexec : p.tables.exec = Jvm.exec) {own C : String} {index : Nat} {y : MethodName} {bytes : ByteArray} {maxL : Nat} {ret : Option FieldType} {hh : List (Nat × Nat × Nat × Nat)}
    (hown : s.vm.findClass own = some m.cls) (hlink : (Cond.methodLink own index y).before args s = true) (hinst : (Cond.instanceMethod y).before args s = true) (hsel : (Cond.selects C y y).before args s = true)
    (hcode : (Cond.codeWith y bytes maxL ret hh).before args s = true) (hy : y.cls ≠ "java/lang/invoke/MethodHandle" ∧ y.cls ≠ "java/lang/invoke/VarHandle")
    {W9 : Nat} {Pre : Pt → Array Value → Prop} {Post : Pt → Array Value → Option Value → Pt → Prop} {PostX : Pt → Array Value → Addr → Pt → Prop} (hK : vx_Back l R p e below s args y 3 W9 Pre Post PostX)
    {b : Addr} {cellB : Cell} (hcell : T.heap[b]? = some cellB) (hobj : cellB.vm.isStatics = false) (hcls : s.vm.findClass C = some cellB.cls)
    {g : JFrame} (hg : g.method = m) (hsize : g.locals.size = c.maxLocals) {argsL rest : List Value} (hlen : ∀ sig, parseMethodDescriptor y.desc = some sig → argsL.length = sig.parameters.length)
    (hstack : g.stack = argsL.reverse ++ .ref b :: rest) (hW : 2 * g.monitorRoom + (rest.map fun v => v.category).sum ≤ W9) (hdg : decode c.code g.pc = .ok (.invokevirtual index, 3))
    (hpre : ∀ vm₁, s.WarmedH vm₁ → Pre ⟨T.setVm vm₁, locs, cells, slots⟩ (Value.ref b :: argsL).toArray) :
    (∃ (v : Option Value) (vm₁ : Vm) (B : Pt), s.WarmedH vm₁ ∧ Stand p l e R s m args below meth c B.U B.locs B.cells B.slots ∧ Post ⟨T.setVm vm₁, locs, cells, slots⟩ (Value.ref b :: argsL).toArray v B ∧
      ∀ target, Steps p.tables e below (B.U.setTop { g with pc := g.pc + 3, stack := v.toList ++ rest }) target → Steps p.tables e below (T.setTop g) target) ∨
    (∃ (q : Addr) (vm₁ : Vm) (B : Pt), s.WarmedH vm₁ ∧ Stand p l e R s m args below meth c B.U B.locs B.cells B.slots ∧ PostX ⟨T.setVm vm₁, locs, cells, slots⟩ (Value.ref b :: argsL).toArray q B ∧
      Steps p.tables e below (T.setTop g) ((B.U.setTop { g with stack := rest }).pushFrame (.throwing q))) := by
  obtain ⟨mk, methM, hnamed, hmethM, hstM, habM⟩ := Cond.instanceMethod_spec hinst
  obtain ⟨m8, methM', cM, hn8, hmethM', -, -, -, -, -, -, hsigM⟩ := Cond.codeWith_spec hcode
  cases Option.some.inj (hn8.symm.trans hnamed)
  cases hmethM.symm.trans hmethM'
  obtain ⟨c2, r2, m2, q1, q2, q3, q4, kP, hkP, hkPi⟩ := Cond.selects_spec hsel
  cases hcls.symm.trans q1
  cases (State.methodFound?_of_named hnamed hy).symm.trans q2
  cases hnamed.symm.trans q3
  have hselP : selectMethod e.platform s.vm cellB.cls mk = .method mk := by rw [Launch.admits_selectMethod X.admits]; exact q4
  obtain ⟨vm₁, X₁, hstep₁⟩ := X.invokevirtual hexec hown hlink hnamed hmethM hstM hkP hkPi hy (a := b) (cell := cellB) hcell
    (fun z h => by rw [h] at hobj; cases hobj) hselP hmethM habM hkP hkPi (g := g) hg (argsL := argsL) (rest := rest) (hlen _ hsigM) hstack hdg
  rcases hK m meth c ⟨T.setVm vm₁, locs, cells, slots⟩ { g with stack := rest } (.invokevirtual index) mk (Value.ref b :: argsL).toArray X₁ hg hsize hdg hW (X₁.named hnamed) (hpre vm₁ X₁.warmed) with ⟨v, B, X', hpost, hsteps⟩ | ⟨q, B, X', hpost, hsteps⟩
  · exact Or.inl ⟨v, vm₁, B, X₁.warmed, X', hpost, fun target h => hstep₁ _ fun acts => by rw [doInvoke_state]; exact hsteps.trans h⟩
  · exact Or.inr ⟨q, vm₁, B, X₁.warmed, X', hpost, hstep₁ _ fun acts => by rw [doInvoke_state]; exact hsteps⟩
theorem vx_callSX (X : Stand p l e R s m args below meth c T locs cells slots) (hexec : p.tables.exec = Jvm.exec) {own : String} {index : Nat} {y : MethodName} {bytes : ByteArray} {maxL : Nat} {ret : Option FieldType} {hh : List (Nat × Nat × Nat × Nat)}
    (hown : s.vm.findClass own = some m.cls) (hlink : (Cond.methodLink own index y).before args s = true) (hstat : (Cond.static y).before args s = true) (hinit : (Cond.initialized y.cls).before args s = true)
    (hcode : (Cond.codeWith y bytes maxL ret hh).before args s = true) (hy : y.cls ≠ "java/lang/invoke/MethodHandle" ∧ y.cls ≠ "java/lang/invoke/VarHandle")
    {W9 : Nat} {Pre : Pt → Array Value → Prop} {Post : Pt → Array Value → Option Value → Pt → Prop} {PostX : Pt → Array Value → Addr → Pt → Prop} (hK : vx_Back l R p e below s args y 3 W9 Pre Post PostX)
    {g : JFrame} (hg : g.method = m) (hsize : g.locals.size = c.maxLocals) {argsL rest : List Value} (hlen : ∀ sig, parseMethodDescriptor y.desc = some sig → argsL.length = sig.parameters.length)
    (hstack : g.stack = argsL.reverse ++ rest) (hW : 2 * g.monitorRoom + (rest.map fun v => v.category).sum ≤ W9) (hdg : decode c.code g.pc = .ok (.invokestatic index, 3))
    (hpre : ∀ vm₁, s.WarmedH vm₁ → Pre ⟨T.setVm vm₁, locs, cells, slots⟩ argsL.toArray) :
    (∃ (v : Option Value) (vm₁ : Vm) (B : Pt), s.WarmedH vm₁ ∧ Stand p l e R s m args below meth c B.U B.locs B.cells B.slots ∧ Post ⟨T.setVm vm₁, locs, cells, slots⟩ argsL.toArray v B ∧
      ∀ target, Steps p.tables e below (B.U.setTop { g with pc := g.pc + 3, stack := v.toList ++ rest }) target → Steps p.tables e below (T.setTop g) target) ∨
    (∃ (q : Addr) (vm₁ : Vm) (B : Pt), s.WarmedH vm₁ ∧ Stand p l e R s m args below meth c B.U B.locs B.cells B.slots ∧ PostX ⟨T.setVm vm₁, locs, cells, slots⟩ argsL.toArray q B ∧
      Steps p.tables e below (T.setTop g) ((B.U.setTop { g with stack := rest }).pushFrame (.throwing q))) := by
  obtain ⟨mk, methM, cM, hnamed, hmethM, -, -, -, -, -, -, hsigM⟩ := Cond.codeWith_spec hcode
  have hstatic : methM.isStatic = true := Cond.static_spec hnamed hmethM hstat
  obtain ⟨kP, hkP, -⟩ := className_of_methodNamed hnamed
  have hinitP : kP.init = .initialized := Cond.initialized_spec (findClass_of_methodNamed hnamed) hkP hinit
  obtain ⟨vm₁, X₁, hstep₁⟩ := X.invokestatic hexec hown hlink hnamed hmethM hstatic hkP hinitP hy (g := g) hg (argsL := argsL) (rest := rest) (hlen _ hsigM) hstack hdg
  rcases hK m meth c ⟨T.setVm vm₁, locs, cells, slots⟩ { g with stack := rest } (.invokestatic index) mk argsL.toArray X₁ hg hsize hdg hW (X₁.named hnamed) (hpre vm₁ X₁.warmed) with ⟨v, B, X', hpost, hsteps⟩ | ⟨q, B, X', hpost, hsteps⟩
  · exact Or.inl ⟨v, vm₁, B, X₁.warmed, X', hpost, fun target h => hstep₁ _ fun acts => by rw [doInvoke_state]; exact hsteps.trans h⟩
  · exact Or.inr ⟨q, vm₁, B, X₁.warmed, X', hpost, hstep₁ _ fun acts => by rw [doInvoke_state]; exact hsteps⟩
theorem vx_callVW (X : Stand p l e R s m args below meth c T locs cells slots) (hexec : p.tables.exec = Jvm.exec) {own C : String} {index : Nat} {y : MethodName} {bytes : ByteArray} {maxL : Nat} {ret : Option FieldType} {hh : List (Nat × Nat × Nat × Nat)}
    (hown : s.vm.findClass own = some m.cls) (hlink : (Cond.methodLink own index y).before args s = true) (hinst : (Cond.instanceMethod y).before args s = true) (hsel : (Cond.selects C y y).before args s = true)
    (hcode : (Cond.codeWith y bytes maxL ret hh).before args s = true) (hy : y.cls ≠ "java/lang/invoke/MethodHandle" ∧ y.cls ≠ "java/lang/invoke/VarHandle")
    {W9 : Nat} {Pre : Pt → Array Value → Prop} {Post : Pt → Array Value → Option Value → Pt → Prop} (hK : Back l R p e below s args y 3 W9 Pre Post)
    {b : Addr} {cellB : Cell} (hcell : T.heap[b]? = some cellB) (hobj : cellB.vm.isStatics = false) (hcls : s.vm.findClass C = some cellB.cls)
    {g : JFrame} (hg : g.method = m) (hsize : g.locals.size = c.maxLocals) {argsL rest : List Value} (hlen : ∀ sig, parseMethodDescriptor y.desc = some sig → argsL.length = sig.parameters.length)
    (hstack : g.stack = argsL.reverse ++ .ref b :: rest) (hW : 2 * g.monitorRoom + (rest.map fun v => v.category).sum ≤ W9) (hdg : decode c.code g.pc = .ok (.invokevirtual index, 3))
    (hpre : ∀ vm₁, s.WarmedH vm₁ → Pre ⟨T.setVm vm₁, locs, cells, slots⟩ (Value.ref b :: argsL).toArray) :
    ∃ (v : Option Value) (vm₁ : Vm) (B : Pt), s.WarmedH vm₁ ∧ Stand p l e R s m args below meth c B.U B.locs B.cells B.slots ∧ Post ⟨T.setVm vm₁, locs, cells, slots⟩ (Value.ref b :: argsL).toArray v B ∧
      ∀ target, Steps p.tables e below (B.U.setTop { g with pc := g.pc + 3, stack := v.toList ++ rest }) target → Steps p.tables e below (T.setTop g) target := by
  obtain ⟨mk, methM, hnamed, hmethM, hstM, habM⟩ := Cond.instanceMethod_spec hinst
  obtain ⟨m8, methM', cM, hn8, hmethM', -, -, -, -, -, -, hsigM⟩ := Cond.codeWith_spec hcode
  cases Option.some.inj (hn8.symm.trans hnamed)
  cases hmethM.symm.trans hmethM'
  obtain ⟨c2, r2, m2, q1, q2, q3, q4, kP, hkP, hkPi⟩ := Cond.selects_spec hsel
  cases hcls.symm.trans q1
  cases (State.methodFound?_of_named hnamed hy).symm.trans q2
  cases hnamed.symm.trans q3
  have hselP : selectMethod e.platform s.vm cellB.cls mk = .method mk := by rw [Launch.admits_selectMethod X.admits]; exact q4
  obtain ⟨vm₁, X₁, hstep₁⟩ := X.invokevirtual hexec hown hlink hnamed hmethM hstM hkP hkPi hy (a := b) (cell := cellB) hcell
    (fun z h => by rw [h] at hobj; cases hobj) hselP hmethM habM hkP hkPi (g := g) hg (argsL := argsL) (rest := rest) (hlen _ hsigM) hstack hdg
  obtain ⟨v, B, X', hpost, hsteps⟩ := hK m meth c ⟨T.setVm vm₁, locs, cells, slots⟩ { g with stack := rest } (.invokevirtual index) mk (Value.ref b :: argsL).toArray X₁ hg hsize hdg hW (X₁.named hnamed) (hpre vm₁ X₁.warmed)
  exact ⟨v, vm₁, B, X₁.warmed, X', hpost, fun target h => hstep₁ _ fun acts => by rw [doInvoke_state]; exact hsteps.trans h⟩
abbrev vx_CVW (R : Room) (s : State) (args : Array Value) (own C : String) (index : Nat) (y : MethodName) (bytes : ByteArray) (maxL : Nat) (ret : Option FieldType) (hh : List (Nat × Nat × Nat × Nat)) (ws : List Cond) (rm : Room) (mc ms n : Nat) : Prop :=
  (rm.cells = mc ∧ rm.slots = ms ∧ rm.frames + 1 ≤ R.frames ∧ 8 + (maxL + 11) + rm.locals ≤ R.locals ∧ (∀ w ∈ ws, ∀ (a' : Array Value) (U : State), s.WarmedH U.vm → w.before a' U = true) ∧ Cond.codeWith y bytes maxL ret hh ∈ ws) ∧
  (Cond.codeWith y bytes maxL ret hh).before args s = true ∧ (Cond.initialized y.cls).before args s = true ∧ (y.cls ≠ "java/lang/invoke/MethodHandle" ∧ y.cls ≠ "java/lang/invoke/VarHandle") ∧
  (∀ sig, parseMethodDescriptor y.desc = some sig → n = sig.parameters.length) ∧ (Cond.methodLink own index y).before args s = true ∧ (Cond.instanceMethod y).before args s = true ∧ (Cond.selects C y y).before args s = true
theorem vx_cwVW {own C : String} {index maxL mc ms : Nat} {y : MethodName} {bytes : ByteArray} {ret : Option FieldType} {hh : List (Nat × Nat × Nat × Nat)} {Ts ws ws' : List Cond} {rm : Room} (n : Nat) (ht : ∀ w ∈ Ts, w.before args s = true) (hT : GoodIn Ts (wsV own index C y ws)) (hw : ws = Cond.codeWith y bytes maxL ret hh :: ws') (hrc : rm.cells = mc) (hrs : rm.slots = ms)
    (hd : y.cls = C ∧ y.cls ≠ "java/lang/invoke/MethodHandle" ∧ y.cls ≠ "java/lang/invoke/VarHandle" ∧ (parseMethodDescriptor y.desc).map (fun d => d.parameters.length) = some n) (hR : rm.frames + 1 ≤ R.frames ∧ 8 + (maxL + 11) + rm.locals ≤ R.locals) :
    vx_CVW R s args own C index y bytes maxL ret hh ws rm mc ms n := by
  obtain ⟨hC, hd⟩ := hd
  subst hC
  have ok : ∀ w ∈ wsV own index y.cls y ws, w.before args s = true := fun w h => ht w (hT w h).1
  have hG : GoodIn Ts ws := fun w h => hT w (by unfold wsV; exact List.mem_append_right _ h)
  have hc : Cond.codeWith y bytes maxL ret hh ∈ ws := by rw [hw]; exact List.mem_cons_self
  refine ⟨⟨hrc, hrs, hR.1, hR.2, pay_in ht hG, hc⟩, ht _ (hG _ hc).1, ok _ (by simp [wsV]), ⟨hd.1, hd.2.1⟩, fun sig h => ?_, ok _ (by simp [wsV]), ok _ (by simp [wsV]), ok _ (by simp [wsV])⟩
  have h2 := hd.2.2
  rw [h] at h2
  exact (Option.some.inj h2).symm
theorem vx_runVW {y : MethodName} {bytes cc : ByteArray} {maxL nL mc ms n index : Nat} {ret : Option FieldType} {hh : List (Nat × Nat × Nat × Nat)} {ws : List Cond} {rm : Room} {Pc : Array Value → State → Prop} {Qc : Array Value → State → Outcome → State → Prop} {free : Addr → Prop} {Ts : List Cond} {own C : String} {b : Addr} {As rest : List Value} {g : JFrame}
    (S : CallFix p m c cc nL s args Ts own) (hM : Met l y ws rm Pc Qc mc ms free) (cw : vx_CVW R s args own C index y bytes maxL ret hh ws rm mc ms n) (hp : PreV s H C b Pc As)
    (hg : g.method = m) (hn : As.length = n) (hsize : g.locals.size = nL) (hstack : g.stack = As.reverse ++ .ref b :: rest) (hW : 2 * g.monitorRoom + (rest.map fun v => v.category).sum ≤ 8) (hdg : decode cc g.pc = .ok (.invokevirtual index, 3)) (hf : cells + mc ≤ R.cells ∧ slots + ms ≤ R.slots) :
    va_Run p l e R s m args below meth c H locs cells slots mc ms g rest (Qc (Value.ref b :: As).toArray) free := by
  obtain ⟨⟨hrc, hrs, hfr, hlo, hws, hcw⟩, hcode, hini, hy, hlen, hl, hin, hse⟩ := cw
  have hK : Back l R p e below s args y 3 8 (PreOf R mc ms Pc) (PostOf Qc mc ms free) := va_backW (hh := hh) (bytes := bytes) (maxL := maxL) (ret := ret) hM hp.1 hrc hrs hfr hlo hws hcw (fun a' U hW => word_at hW (Or.inl (by first | rfl | simp [Cond.onTables, Cond.keeps, Cond.steady])) hini)
  obtain ⟨hx, hb, hml, ho, -⟩ := S
  obtain ⟨-, ⟨cellB, hcB, hoB, hclB⟩, hPc⟩ := hp
  intro T hT X
  obtain ⟨v, vm₁, ⟨U', l2, c2, s2⟩, hW₁, X', ⟨g', mk, t, L, e1, e2, hq, h1, hL, h2, h3⟩, st⟩ := vx_callVW X hx (C := C) (hh := hh) (bytes := bytes) (maxL := maxL) (ret := ret) ho hl hin hse hcode hy hK (by rw [hT]; exact hcB) hoB hclB hg (hsize.trans hml.symm) (argsL := As) (rest := rest) (fun sig h => hn.trans (hlen sig h)) hstack hW (by rw [hb]; exact hdg)
    (fun vm₁ hW₁ => ⟨hf.1, hf.2, hPc (T.setVm vm₁) hT hW₁⟩)
  dsimp only [Pt.U, Pt.locs, Pt.cells, Pt.slots] at X' e1 e2 h1 h2 h3 st
  subst h1; subst h2; subst h3
  exact ⟨v, (T.setVm vm₁).calling g' mk (Value.ref b :: As).toArray, t, U', L, hT, X', hL, e1, e2, hq, st⟩
section
variable {y : MethodName} {bytes cc : ByteArray} {maxL nL mc ms n index : Nat} {ret : Option FieldType} {ws : List Cond} {rm : Room} {Pc : Array Value → State → Prop} {Qc : Array Value → State → Outcome → State → Prop} {XC : String → State → State → Prop} {free : Addr → Prop} {Ts : List Cond} {own C : String} {b : Addr} {As rest : List Value} {g : JFrame}
theorem vx_runVX {hh : List (Nat × Nat × Nat × Nat)} (S : CallFix p m c cc nL s args Ts own) (hM : vx_Met l y ws rm Pc Qc XC mc ms free) (cw : vx_CVW R s args own C index y bytes maxL ret hh ws rm mc ms n) (hp : PreV s H C b Pc As)
    (hg : g.method = m) (hn : As.length = n) (hsize : g.locals.size = nL) (hstack : g.stack = As.reverse ++ .ref b :: rest) (hW : 2 * g.monitorRoom + (rest.map fun v => v.category).sum ≤ 8) (hdg : decode cc g.pc = .ok (.invokevirtual index, 3)) (hf : cells + mc ≤ R.cells ∧ slots + ms ≤ R.slots) :
    vx_Run p l e R s m args below meth c H locs cells slots mc ms g rest (Qc (Value.ref b :: As).toArray) XC free := by
  obtain ⟨⟨hrc, hrs, hfr, hlo, hws, hcw⟩, hcode, hini, hy, hlen, hl, hin, hse⟩ := cw
  have hK : vx_Back l R p e below s args y 3 8 (PreOf R mc ms Pc) (PostOf Qc mc ms free) (vx_Post XC mc ms free) := vx_backW (hh := hh) (bytes := bytes) (maxL := maxL) (ret := ret) hM hp.1 hrc hrs hfr hlo hws hcw (fun a' U hW => word_at hW (Or.inl (by first | rfl | simp [Cond.onTables, Cond.keeps, Cond.steady])) hini)
  obtain ⟨hx, hb, hml, ho, -⟩ := S
  obtain ⟨-, ⟨cellB, hcB, hoB, hclB⟩, hPc⟩ := hp
  intro T hT X
  rcases vx_callVX X hx (C := C) (hh := hh) (bytes := bytes) (maxL := maxL) (ret := ret) ho hl hin hse hcode hy hK (by rw [hT]; exact hcB) hoB hclB hg (hsize.trans hml.symm) (argsL := As) (rest := rest) (fun sig h => hn.trans (hlen sig h)) hstack hW (by rw [hb]; exact hdg)
    (fun vm₁ hW₁ => ⟨hf.1, hf.2, hPc (T.setVm vm₁) hT hW₁⟩) with ⟨v, vm₁, ⟨U', l2, c2, s2⟩, hW₁, X', ⟨g', mk, t, L, e1, e2, hq, h1, hL, h2, h3⟩, st⟩ | ⟨q, vm₁, ⟨U', l2, c2, s2⟩, hW₁, X', ⟨g', mk, t, L, E, ce, e1, e2, hq, hce, hcv, hcl, h1, hL, h2, h3⟩, st⟩
  · dsimp only [Pt.U, Pt.locs, Pt.cells, Pt.slots] at X' e1 e2 h1 h2 h3 st
    subst h1; subst h2; subst h3
    exact Or.inl ⟨v, (T.setVm vm₁).calling g' mk (Value.ref b :: As).toArray, t, U', L, hT, X', hL, e1, e2, hq, st⟩
  · dsimp only [Pt.U, Pt.locs, Pt.cells, Pt.slots] at X' e1 e2 h1 h2 h3 st hcl
    subst h1; subst h2; subst h3
    exact Or.inr ⟨q, (T.setVm vm₁).calling g' mk (Value.ref b :: As).toArray, t, U', L, E, ce, hT, X', hL, e1, e2, hq, hce, hcv, vx_cls hW₁ hcl, st⟩
theorem vx_runSX {hh : List (Nat × Nat × Nat × Nat)} (S : CallFix p m c cc nL s args Ts own) (hM : vx_Met l y ws rm Pc Qc XC mc ms free) (cw : vx_CSW R s args own index y bytes maxL ret hh ws rm mc ms n) (hp : PreS s H Pc As)
    (hg : g.method = m) (hn : As.length = n) (hsize : g.locals.size = nL) (hstack : g.stack = As.reverse ++ rest) (hW : 2 * g.monitorRoom + (rest.map fun v => v.category).sum ≤ 8) (hdg : decode cc g.pc = .ok (.invokestatic index, 3)) (hf : cells + mc ≤ R.cells ∧ slots + ms ≤ R.slots) :
    vx_Run p l e R s m args below meth c H locs cells slots mc ms g rest (Qc As.toArray) XC free := by
  obtain ⟨⟨hrc, hrs, hfr, hlo, hws, hcw⟩, hcode, hini, hy, hlen, hl, hstt⟩ := cw
  have hK : vx_Back l R p e below s args y 3 8 (PreOf R mc ms Pc) (PostOf Qc mc ms free) (vx_Post XC mc ms free) := vx_backW (hh := hh) (bytes := bytes) (maxL := maxL) (ret := ret) hM hp.1 hrc hrs hfr hlo hws hcw (fun a' U hW => word_at hW (Or.inl (by first | rfl | simp [Cond.onTables, Cond.keeps, Cond.steady])) hini)
  obtain ⟨hx, hb, hml, ho, -⟩ := S
  intro T hT X
  rcases vx_callSX X hx (hh := hh) (bytes := bytes) (maxL := maxL) (ret := ret) ho hl hstt hini hcode hy hK hg (hsize.trans hml.symm) (argsL := As) (rest := rest) (fun sig h => hn.trans (hlen sig h)) hstack hW (by rw [hb]; exact hdg)
    (fun vm₁ hW₁ => ⟨hf.1, hf.2, hp.2 (T.setVm vm₁) hT hW₁⟩) with ⟨v, vm₁, ⟨U', l2, c2, s2⟩, hW₁, X', ⟨g', mk, t, L, e1, e2, hq, h1, hL, h2, h3⟩, st⟩ | ⟨q, vm₁, ⟨U', l2, c2, s2⟩, hW₁, X', ⟨g', mk, t, L, E, ce, e1, e2, hq, hce, hcv, hcl, h1, hL, h2, h3⟩, st⟩
  · dsimp only [Pt.U, Pt.locs, Pt.cells, Pt.slots] at X' e1 e2 h1 h2 h3 st
    subst h1; subst h2; subst h3
    exact Or.inl ⟨v, (T.setVm vm₁).calling g' mk As.toArray, t, U', L, hT, X', hL, e1, e2, hq, st⟩
  · dsimp only [Pt.U, Pt.locs, Pt.cells, Pt.slots] at X' e1 e2 h1 h2 h3 st hcl
    subst h1; subst h2; subst h3
    exact Or.inr ⟨q, (T.setVm vm₁).calling g' mk As.toArray, t, U', L, E, ce, hT, X', hL, e1, e2, hq, hce, hcv, vx_cls hW₁ hcl, st⟩
end
end VXH
theorem vx_ofWH {l : Launch} {y : MethodName} {ws ws' : List Cond} {rm : Room} {Pc : Array Value → State → Prop} {Qc : Array Value → State → Outcome → State → Prop} {XC : String → State → State → Prop} {mc ms : Nat} {free : Addr → Prop} {cc : ByteArray} {maxL : Nat} {ret : Option FieldType} {hh : List (Nat × Nat × Nat × Nat)}
    (hy : plainName y.cls = true) (hw : ws = Cond.codeWith y cc maxL ret hh :: ws')
    (body : ∀ p e s m args below meth c s₁, BodyLoose p l y (headSpec ws rm) cc maxL ret e s m args below meth c s₁ → c.maxLocals = maxL → Pc args s →
      W p l e (headSpec ws rm).room s m args below meth c s.heap [] 0 0 (vx_MQ below Qc XC args s mc ms free) (entryFrame m args maxL)) : vx_Met l y ws rm Pc Qc XC mc ms free := by
  refine MetFree.of_bodyS (code := cc) (maxLocals := maxL) (ret := ret) hy ?_ ?_
  · intro args s m h hn
    obtain ⟨m9, meth, c, hn9, h1, h2, h3, h4, -, h5, h6, -⟩ := Cond.codeWith_spec (atoms_spec (ws := ws) h _ (by rw [hw]; exact List.mem_cons_self))
    cases hn.symm.trans hn9
    exact ⟨meth, c, h1, h2, h3, h4, h5, h6⟩
  · intro p e s m args below meth c s₁ B hml hP _
    have hh0 : s₁.heap = s.heap := by rw [B.state]; rfl
    obtain ⟨t, a1, o, b1, b2, b3⟩ := body p e s m args below meth c s₁ B hml hP s₁ hh0 (Stand.of_body B)
    exact ⟨t, o, a1, b1, b2, b3⟩
/-! ===== END ===== -/

/-! ===== BEGIN what the machine throws by itself, no traces kept ===== -/
section VXM
set_option maxHeartbeats 1000000 in
/-- the machine throws cls with the message text, no traces kept: from its note over the frame g to 'throwing' over the same frame (follows the proofs of Stand.vmThrowsMessage, Shelf/KitTracedVmS.lean, and Stand.throwsMessageColdBareV, StandMessageColdV.lean, without the step out of the frame) -/
theorem vx_vmAt {p : Program} {l : Launch} {e : Env} {R : Room} {s : State} {m₀ : MethodId} {args : Array Value} {below : List Frame} {meth : Method} {c : Code} {W : State} {locs : List Loc} {cells slots : Nat}
    (X : Stand p l e R s m₀ args below meth c W locs cells slots) (hexec : p.tables.exec = Jvm.exec) (htr : e.platform.stackTraces = false) {cls : String} {names : List String} {text : String}
    (hcls : Bundle.fit cls = true) (hnames : ∀ n ∈ names, Bundle.fit n = true) (hsoe : (cls == "java/lang/StackOverflowError") = false) (hoom : (cls == "java/lang/OutOfMemoryError") = false)
    (h : ∀ a ∈ Bundle.messageArmAtoms cls names, a.before args s = true)
    (hlocs : ∀ x ∈ locs, ∀ cell, s.heap[x.base]? = some cell → cell.vm.isStatics = false)
    (htext : (text == notModelled) = false) (hlimit : ¬ (stringBytes (stringToUtf16 text)).size > e.platform.arrayLengthLimit) (hheap : ¬ (stringBytes (stringToUtf16 text)).size * componentBytes .byte > e.platform.maxHeapBytes)
    {g : JFrame} (hg : g.method = m₀) (hsize : g.locals.size = c.maxLocals)
    (hRframes : names.length + 4 < R.frames) (hRlocals : 2 * g.monitorRoom + (g.stack.map fun v => v.category).sum + 10240 ≤ R.locals) (hshort : 13 * names.length + 55 ≤ 10240)
    (hRcells : cells + 3 ≤ R.cells) (hRslots : slots + ((stringBytes (stringToUtf16 text)).size + 4 + 6) ≤ R.slots) (hlocks : meth.locks = false) :
    ∃ (S : State) (q : Addr) (ce : Cell), (∀ target, Steps p.tables e below ((S.setTop g).pushFrame (.throwing q)) target → Steps p.tables e below ((W.setTop g).pushFrame (.throwNew cls (some text) none)) target) ∧
      Stand p l e R s m₀ args below meth c S locs (cells + 3) (slots + ((stringBytes (stringToUtf16 text)).size + 4 + 6)) ∧ S.heap[q]? = some ce ∧ s.vm.findClass cls = some ce.cls ∧ ce.vm = .none := by
  have howns : e.platform.frameOwnsMonitors = true := by rw [X.admits.platform]
  have hfin : e.platform.finalization = false := by rw [X.admits.platform]
  have hpl : e.platform.magicAccessors = ({} : Platform).magicAccessors := by rw [X.admits.platform]
  have a : ∀ x, x ∈ Bundle.messageArmAtoms cls names → x.holds args s none s [] = true := fun x hx => h x hx
  obtain ⟨T, Z0, L, -, Y⟩ := ThrowableC.of_atoms (args := args) howns hfin hpl (fun x hx => h x (by simp [Bundle.messageArmAtoms, hx]))
  obtain ⟨Z, M, LZ, LM, hnZ⟩ := Init0T.ofS_atoms (args := args) hpl L Y (fun x hx => h x (by simp [Bundle.messageArmAtoms, hx]))
  obtain ⟨P1, Ps, hlen, L1, hL, hP1m, hlink1, hlink⟩ := Bundle.chainS (args := args) hpl hnZ names cls hcls hnames (fun x hx => h x (by simp [Bundle.messageArmAtoms, hx]))
  obtain ⟨Zs, LZs, hn4, hfitv, hfitc⟩ := StringT.of_atoms (args := args) (fun x hx => h x (by simp [Bundle.messageArmAtoms, hx]))
  have hfound : s.vm.findClass cls = some P1.m.cls := findClass_of_methodNamed hP1m
  obtain ⟨c1, kX, hc1, hk, hord, -, -, hn6⟩ := Cond.instantiable_spec (a (.instantiable cls 6) (by simp [Bundle.messageArmAtoms]))
  cases Option.some.inj (hc1.symm.trans hfound)
  have hinit := Cond.initialized_spec hfound hk (a (.initialized cls) (by simp [Bundle.messageArmAtoms]))
  have hctor : kX.findMethod "<init>" "(Ljava/lang/String;)V" = some P1.m.idx := findMethod_of_methodNamed hP1m hk
  have hsel0 : selectMethod e.platform s.vm P1.m.cls T.fill0 = .method T.fill0 := by
    obtain ⟨c2, r2, m2, q1, q2, q3, q4, -⟩ := Cond.selects_spec (a (.selects cls Bundle.tFill0 Bundle.tFill0) (by simp [Bundle.messageArmAtoms]))
    cases Option.some.inj (q1.symm.trans hfound)
    cases Option.some.inj (q2.symm.trans (State.methodFound?_of_named Y.fill0 (by decide)))
    cases Option.some.inj (q3.symm.trans Y.fill0)
    rw [Launch.admits_selectMethod X.admits]; exact q4
  have hselF : selectMethod e.platform s.vm P1.m.cls T.fill = .method T.fill := by
    obtain ⟨c2, r2, m2, q1, q2, q3, q4, -⟩ := Cond.selects_spec (a (.selects cls Bundle.tFill Bundle.tFill) (by simp [Bundle.messageArmAtoms]))
    cases Option.some.inj (q1.symm.trans hfound)
    cases Option.some.inj (q2.symm.trans (State.methodFound?_of_named Y.fill (by decide)))
    cases Option.some.inj (q3.symm.trans Y.fill)
    rw [Launch.admits_selectMethod X.admits]; exact q4
  obtain ⟨cellS0, hcS0, hiss⟩ := Y.statics
  obtain ⟨u0, hu0⟩ := Cond.staticRefV Y.unassigned L.unassignedStatic L.statics hcS0 hiss (a (.isRef (.static Bundle.tN "UNASSIGNED_STACK" Bundle.steD)) (by simp [Bundle.messageArmAtoms]))
  obtain ⟨sen, hsen⟩ := Cond.staticRefV Y.sentinel L.sentinelStatic L.statics hcS0 hiss (a (.isRef (.static Bundle.tN "SUPPRESSED_SENTINEL" Bundle.listD)) (by simp [Bundle.messageArmAtoms]))
  obtain ⟨ci198, i198, fB, hk198, hg198, ha198, hsB, -, hnB, htB, hffB⟩ := Cond.ownField (t := .object "java/lang/Object") Y.found L.cls (by decide +kernel) (a (.fieldLink Bundle.tN 198 Bundle.tN "backtrace" "Ljava/lang/Object;") (by simp [Bundle.messageArmAtoms])) (a (.lays Bundle.tN Bundle.tN "backtrace" "Ljava/lang/Object;") (by simp [Bundle.messageArmAtoms])) e.platform hpl
  obtain ⟨cellS, hcS', heS, -, hkeep⟩ := X.same.2.2.2.2.2 T.aS cellS0 hcS0
  have hcellS : W.heap[T.aS]? = some cellS := hcS'
  have hout' : ∀ i, (⟨T.aS, i⟩ : Loc) ∉ locs := fun i hmem => by
    have := hlocs _ hmem cellS0 hcS0
    rw [hiss] at this; cases this
  have hknownS : cellS.vm ≠ .unknown := by
    rw [heS]; intro hu
    rw [show cellS0.vm = .unknown from hu] at hiss
    cases hiss
  have hvU : cellS.slots[T.fUnassigned.slot]? = some u0.v := by rw [hkeep _ (hout' _)]; exact hu0
  have hvSen : cellS.slots[T.fSentinel.slot]? = some sen.v := by rw [hkeep _ (hout' _)]; exact hsen
  obtain ⟨iM, hffM⟩ := Y.msg
  obtain ⟨tyC, dC, hdC, hdnC⟩ := Cond.laysAt hfound hk Y.cause (a (.lays cls Bundle.tN "cause" "Ljava/lang/Throwable;") (by simp [Bundle.messageArmAtoms]))
  obtain ⟨tyS, dS, hdS, hdnS⟩ := Cond.laysAt hfound hk Y.stack (a (.lays cls Bundle.tN "stackTrace" Bundle.steD) (by simp [Bundle.messageArmAtoms]))
  obtain ⟨tyP, dP, hdP, hdnP⟩ := Cond.laysAt hfound hk Y.supp (a (.lays cls Bundle.tN "suppressedExceptions" Bundle.listD) (by simp [Bundle.messageArmAtoms]))
  obtain ⟨tyM, dM, hdM, hdnM⟩ := Cond.laysAt hfound hk hffM (a (.lays cls Bundle.tN "detailMessage" "Ljava/lang/String;") (by simp [Bundle.messageArmAtoms]))
  obtain ⟨tyB, dB, hdB, hdnB⟩ := Cond.laysAt hfound hk hffB (a (.lays cls Bundle.tN "backtrace" "Ljava/lang/Object;") (by simp [Bundle.messageArmAtoms]))
  have bC := Cond.laysApart hdB hdC hdnB hdnC (by rw [hnB, Y.causeName]; decide)
  have bS := Cond.laysApart hdB hdS hdnB hdnS (by rw [hnB, Y.stackName]; decide)
  have bP := Cond.laysApart hdB hdP hdnB hdnP (by rw [hnB, Y.suppName]; decide)
  have hbk : ((preparedCellV T.toThrowableT (freshCell P1.m.cls kX) (W.heap.size + 2) u0 sen).withEntry W.cur).slots[fB.slot]? = some .null := by
    have := fresh_default (c := P1.m.cls) tyB
    rw [htB] at this
    simpa [preparedCellV, Cell.setSlot, Cell.withEntry, Array.getElem?_setIfInBounds, bC, bS, bP, bC.symm, bS.symm, bP.symm, defaultValue] using this
  have tkC := Takes.of_laid (v := .ref (W.heap.size + 2)) hk hord tyC (by rw [Y.causeType]; rfl)
  have tkS := Takes.of_laid (v := u0.v) hk hord tyS (by rw [Y.stackType]; exact fits_refV_array _ u0)
  have tkP := Takes.of_laid (v := sen.v) hk hord tyP (by rw [Y.suppType]; exact fits_refV_object _ sen)
  have tkM := Takes.of_laid (v := .ref (W.heap.size + 1)) hk hord tyM (by rw [Y.msgType]; rfl)
  have hskip : SkipFacts T e.platform s (fun u => u) u0 ((preparedCellV T.toThrowableT (freshCell P1.m.cls kX) (W.heap.size + 2) u0 sen).withEntry W.cur) := ⟨{ ci198 := ci198, i198 := i198, fBack := fB }, ⟨hk198, hg198, ha198, hsB⟩, hbk, fun _ _ => rfl⟩
  have h0 : At W g.method c below := by rw [hg]; exact X.here
  obtain ⟨hbeyond, hfreeW⟩ := X.vmMayThrow hsize (.throwNew cls (some text) none) (fun f hf => by cases hf) rfl hRlocals
  have hfr' : W.frames.length + Ps.length + 4 < (e.platform.stackLimits W.me).1 := by have := X.framesAbove hRframes; omega
  have hwd' : (stackUse (.java g :: W.frames.tail)).2 + 13 * Ps.length + 55 ≤ (e.platform.stackLimits W.me).2 := by have := X.stackAbove hsize (K := 13 * Ps.length + 55) (by omega); omega
  have hslots : W.slotsUsed + (stringBytes (stringToUtf16 text)).size + Zs.kS.instanceTypes.size + kX.instanceTypes.size ≤ e.platform.maxSlots := by
    have := X.slotsAbove hRslots
    rw [hn4, hn6]
    omega
  obtain ⟨vm', hW', st⟩ := Steps.vmThrowsMessageColdByV p (s₀ := s) (S := W) (g := g) h0 hexec T L Z LZ M LM X.warmed (t := W.cur) rfl Zs LZs P1 L1 Ps hL hlink1 hlink hsoe hoom hfound hk hinit hord hctor
    (Launch.admits_hotImplicitExceptions X.admits) hbeyond hfreeW htext hlimit hheap (X.cellsAbove hRcells) hslots (hfitv _) (hfitc _)
    (Nn := fun u => u) heapOnly_id (fun _ _ => rfl) (fun _ => rfl) (fun u x y => setCell_twice _ _ _ _) (fun _ => Nat.le_refl _) (cN := ((preparedCellV T.toThrowableT (freshCell P1.m.cls kX) (W.heap.size + 2) u0 sen).withEntry W.cur))
    hsel0 hcellS hknownS hvU tkS (fun _ hu => hu) (fun _ hu => hu) rfl rfl rfl (by simp [preparedCellV, Cell.setSlot, Cell.withEntry]) hskip (fun _ _ hA hW _ hroom _ hrest => L.nativeOff p htr hA hW hroom hrest) hselF hvSen tkC tkP tkM Y.objLocals rfl hfr' hwd'
  rw [plainBareV_eq T.toThrowableT (W.heap.size + 2) u0 sen (.ref (W.heap.size + 1)) W.cur rfl rfl] at st
  obtain ⟨-, -, w3, w4, -, -, -⟩ := withThrown_facts e.platform W Zs text P1.m.cls kX
  have X3 := ((X.pushed (bytesOf Zs.cB (stringToUtf16 text))).pushed (stringAt Zs.cS Zs.kS Zs.fv Zs.fc (stringToUtf16 text) W.heap.size)).pushed (freshCell P1.m.cls kX)
  rw [← withString_eq] at X3
  have X4 := X3.noted hW'
  have ha : (W.heap.size + 2) < ((withThrown W Zs text P1.m.cls kX).setVm vm').heap.size := by show _ < (withThrown W Zs text P1.m.cls kX).heap.size; rw [w3]; omega
  have hcell : ((withThrown W Zs text P1.m.cls kX).setVm vm').heap[(W.heap.size + 2)]? = some (freshCell P1.m.cls kX) := w4
  have X5 := ((((X4.stored hcell T.fCause.slot (.ref (W.heap.size + 2))).storedAgain ha T.fStack.slot u0.v).storedAgain ha T.fSupp.slot sen.v).storedAgain ha T.fStack.slot u0.v).storedAgain ha T.fMsg.slot (.ref (W.heap.size + 1))
  obtain ⟨g₁, hfrM⟩ := X5.frames_eq
  have hU : ((((withThrown W Zs text P1.m.cls kX).setVm vm').setCell (W.heap.size + 2) (plainBareV T.toThrowableT (freshCell P1.m.cls kX) (W.heap.size + 2) u0 sen (.ref (W.heap.size + 1)))).setTop g).pushFrame (.throwing (W.heap.size + 2)) = (((withThrown W Zs text P1.m.cls kX).setVm vm').setCell (W.heap.size + 2) (plainBareV T.toThrowableT (freshCell P1.m.cls kX) (W.heap.size + 2) u0 sen (.ref (W.heap.size + 1)))).setFrames (.throwing (W.heap.size + 2) :: .java g :: below) := by
    rw [State.pushFrame, State.frames_setTop _ hfrM, State.setTop_of_frames _ hfrM, State.setFrames_setFrames]
  have b1 : (bytesOf Zs.cB (stringToUtf16 text)).slots.size = (stringBytes (stringToUtf16 text)).size := by
    rw [(Cell.writeAll_facts _ _).2.2]; simp [bytes0]
  have b2 : (stringAt Zs.cS Zs.kS Zs.fv Zs.fc (stringToUtf16 text) W.heap.size).slots.size = 4 := by simp [string0, Cell.setSlot, hn4]
  have b3 : (freshCell P1.m.cls kX).slots.size = 6 := by simp [hn6]
  rw [b1, b2, b3] at X5
  have e9 : slots + (stringBytes (stringToUtf16 text)).size + 4 + 6 = slots + ((stringBytes (stringToUtf16 text)).size + 4 + 6) := by omega
  rw [e9] at X5
  simp only [List.append_assoc, List.cons_append, List.nil_append] at X5
  refine ⟨((withThrown W Zs text P1.m.cls kX).setVm vm').setCell (W.heap.size + 2) (plainBareV T.toThrowableT (freshCell P1.m.cls kX) (W.heap.size + 2) u0 sen (.ref (W.heap.size + 1))), W.heap.size + 2, _, fun target ht => st _ (by rw [X.tail, ← hU]; exact ht),
    X5.forget (fun y hy => ?_), heapAt_setCell_self _ ha, hfound, rfl⟩
  simp only [List.mem_cons, List.not_mem_nil, or_false] at hy
  have hge : s.heap.size ≤ W.heap.size := X.same.2.1
  rcases hy with rfl | rfl | rfl | rfl | rfl <;> exact Nat.le_trans hge (Nat.le_add_right _ 2)
set_option maxHeartbeats 1000000 in
/-- the machine throws NullPointerException, no traces kept: from its note over the frame g to 'throwing' over the same frame (follows the proof of Stand.vmThrowsNpe, Shelf42/KT2.lean; throwsNpeColdBareVAt, Shelf42/NT91.lean, called) -/
theorem vx_npeAt {p : Program} {l : Launch} {e : Env} {R : Room} {s : State} {m₀ : MethodId} {args : Array Value} {below : List Frame} {meth : Method} {c : Code} {W : State} {locs : List Loc} {cells slots : Nat}
    (X : Stand p l e R s m₀ args below meth c W locs cells slots) (hexec : p.tables.exec = Jvm.exec) (htr : e.platform.stackTraces = false) {n : Nat}
    (h : ∀ a ∈ Bundle.npeArmAtoms n, a.before args s = true)
    (hlocs : ∀ x ∈ locs, ∀ cell, s.heap[x.base]? = some cell → cell.vm.isStatics = false)
    {g : JFrame} (hg : g.method = m₀) (hsize : g.locals.size = c.maxLocals)
    (hRframes : 7 < R.frames) (hRlocals : 2 * g.monitorRoom + (g.stack.map fun v => v.category).sum + 10240 ≤ R.locals)
    (hRcells : cells + 1 ≤ R.cells) (hRslots : slots + n ≤ R.slots) (hlocks : meth.locks = false) :
    ∃ (S : State) (q : Addr) (ce : Cell), (∀ target, Steps p.tables e below ((S.setTop g).pushFrame (.throwing q)) target → Steps p.tables e below ((W.setTop g).pushFrame (.throwNew "java/lang/NullPointerException" none none)) target) ∧
      Stand p l e R s m₀ args below meth c S locs (cells + 1) (slots + n) ∧ S.heap[q]? = some ce ∧ s.vm.findClass "java/lang/NullPointerException" = some ce.cls ∧ ce.vm = .none := by
  have howns : e.platform.frameOwnsMonitors = true := by rw [X.admits.platform]
  have hfin : e.platform.finalization = false := by rw [X.admits.platform]
  have hpl : e.platform.magicAccessors = ({} : Platform).magicAccessors := by rw [X.admits.platform]
  have hpl2 : e.platform.arrayCloneIsPublic = true := by rw [X.admits.platform]
  have a' : ∀ x, x ∈ Bundle.npeArmAtoms n → x.holds args s none s [] = true := fun x hx => h x hx
  obtain ⟨T, Z, L, LZ, Y⟩ := ThrowableC.of_atoms (args := args) howns hfin hpl (fun x hx => h x (by simp [Bundle.npeArmAtoms, hx]))
  obtain ⟨N, LN, hcN, hnNF, hordN, hffS⟩ := NpeC.of_atoms (args := args) hpl hpl2 L Y (fun x hx => h x (by simp [Bundle.npeArmAtoms, hx]))
  obtain ⟨P1, L1, hP1m, hP1s⟩ := PassC.of_atoms (args := args) (s := s) hpl (X := Bundle.nN) (Y := Bundle.rN) (by decide) (by decide) LibCode.NullPointerException.Init0.at_0 LibCode.NullPointerException.Init0.at_1 LibCode.NullPointerException.Init0.at_4 (fun x hx => h x (by simp [Bundle.npeArmAtoms, hx]))
  obtain ⟨PR, LR, hPRm, hPRs⟩ := PassC.of_atoms (args := args) (s := s) hpl (X := Bundle.rN) (Y := Bundle.eN) (by decide) (by decide) LibCode.RuntimeException.Init0.at_0 LibCode.RuntimeException.Init0.at_1 LibCode.RuntimeException.Init0.at_4 (fun x hx => h x (by simp [Bundle.npeArmAtoms, hx]))
  obtain ⟨PE, LEx, hPEm, hPEs⟩ := PassC.of_atoms (args := args) (s := s) hpl (X := Bundle.eN) (Y := Bundle.tN) (by decide) (by decide) LibCode.Exception.Init0.at_0 LibCode.Exception.Init0.at_1 LibCode.Exception.Init0.at_4 (fun x hx => h x (by simp [Bundle.npeArmAtoms, hx]))
  have hfound : s.vm.findClass Bundle.nN = some P1.m.cls := findClass_of_methodNamed hP1m
  have ecls : N.cN = P1.m.cls := Option.some.inj (hcN.symm.trans hfound)
  have hk : s.vm.classes[P1.m.cls]? = some N.kN := by rw [← ecls]; exact LN.cls
  have hinit := Cond.initialized_spec hfound hk (a' (.initialized Bundle.nN) (by simp [Bundle.npeArmAtoms]))
  have hctor : N.kN.findMethod "<init>" "()V" = some P1.m.idx := findMethod_of_methodNamed hP1m hk
  obtain ⟨c1, k1, hc1, hk1, -, -, -, hn⟩ := Cond.instantiable_spec (a' (.instantiable Bundle.nN n) (by simp [Bundle.npeArmAtoms]))
  cases Option.some.inj (hc1.symm.trans hfound)
  cases Option.some.inj (hk1.symm.trans hk)
  have hfsz : (freshCell P1.m.cls N.kN).slots.size = n := by simp [hn]
  have hlink1 : P1.sup = PR.m := Option.some.inj (hP1s.symm.trans hPRm)
  have hlinkR : PR.sup = PE.m := Option.some.inj (hPRs.symm.trans hPEm)
  have hlinkE : PE.sup = Z.m T.toThrowableT := Option.some.inj (hPEs.symm.trans Y.init0)
  have hLs : ∀ P, P ∈ [PR, PE] → P.Links0 e.platform s := fun P hP => by
    simp only [List.mem_cons, List.not_mem_nil, or_false] at hP
    rcases hP with rfl | rfl
    · exact LR
    · exact LEx
  have hsel0 : selectMethod e.platform s.vm P1.m.cls T.fill0 = .method T.fill0 := by
    obtain ⟨c2, r2, m2, q1, q2, q3, q4, -⟩ := Cond.selects_spec (a' (.selects Bundle.nN Bundle.tFill0 Bundle.tFill0) (by simp [Bundle.npeArmAtoms]))
    cases Option.some.inj (q1.symm.trans hfound)
    cases Option.some.inj (q2.symm.trans (State.methodFound?_of_named Y.fill0 (by decide)))
    cases Option.some.inj (q3.symm.trans Y.fill0)
    rw [Launch.admits_selectMethod X.admits]; exact q4
  have hselF : selectMethod e.platform s.vm P1.m.cls T.fill = .method N.fill := by
    obtain ⟨c2, r2, m2, q1, q2, q3, q4, -⟩ := Cond.selects_spec (a' (.selects Bundle.nN Bundle.tFill Bundle.nFill) (by simp [Bundle.npeArmAtoms]))
    cases Option.some.inj (q1.symm.trans hfound)
    cases Option.some.inj (q2.symm.trans (State.methodFound?_of_named Y.fill (by decide)))
    cases Option.some.inj (q3.symm.trans hnNF)
    rw [Launch.admits_selectMethod X.admits]; exact q4
  obtain ⟨cellS0, hcS0, hiss⟩ := Y.statics
  obtain ⟨u0, hu0⟩ := Cond.staticRefV Y.unassigned L.unassignedStatic L.statics hcS0 hiss (a' (.isRef (.static Bundle.tN "UNASSIGNED_STACK" Bundle.steD)) (by simp [Bundle.npeArmAtoms]))
  obtain ⟨sen, hsen⟩ := Cond.staticRefV Y.sentinel L.sentinelStatic L.statics hcS0 hiss (a' (.isRef (.static Bundle.tN "SUPPRESSED_SENTINEL" Bundle.listD)) (by simp [Bundle.npeArmAtoms]))
  obtain ⟨ci198, i198, fB, hk198, hg198, ha198, hsB, -, hnB, htB, hffB⟩ := Cond.ownField (t := .object "java/lang/Object") Y.found L.cls (by decide +kernel) (a' (.fieldLink Bundle.tN 198 Bundle.tN "backtrace" Bundle.objD) (by simp [Bundle.npeArmAtoms])) (a' (.lays Bundle.tN Bundle.tN "backtrace" Bundle.objD) (by simp [Bundle.npeArmAtoms])) e.platform hpl
  obtain ⟨cellS, hcS', heS, -, hkeep⟩ := X.same.2.2.2.2.2 T.aS cellS0 hcS0
  have hcellS : W.heap[T.aS]? = some cellS := hcS'
  have hout' : ∀ i, (⟨T.aS, i⟩ : Loc) ∉ locs := fun i hmem => by
    have := hlocs _ hmem cellS0 hcS0
    rw [hiss] at this; cases this
  have hknownS : cellS.vm ≠ .unknown := by
    rw [heS]; intro hu
    rw [show cellS0.vm = .unknown from hu] at hiss
    cases hiss
  have hvU : cellS.slots[T.fUnassigned.slot]? = some u0.v := by rw [hkeep _ (hout' _)]; exact hu0
  have hvSen : cellS.slots[T.fSentinel.slot]? = some sen.v := by rw [hkeep _ (hout' _)]; exact hsen
  obtain ⟨tyC, dC, hdC, hdnC⟩ := Cond.laysAt hfound hk Y.cause (a' (.lays Bundle.nN Bundle.tN "cause" "Ljava/lang/Throwable;") (by simp [Bundle.npeArmAtoms]))
  obtain ⟨tyS, dS, hdS, hdnS⟩ := Cond.laysAt hfound hk Y.stack (a' (.lays Bundle.nN Bundle.tN "stackTrace" Bundle.steD) (by simp [Bundle.npeArmAtoms]))
  obtain ⟨tyP, dP, hdP, hdnP⟩ := Cond.laysAt hfound hk Y.supp (a' (.lays Bundle.nN Bundle.tN "suppressedExceptions" Bundle.listD) (by simp [Bundle.npeArmAtoms]))
  obtain ⟨tyX, dX, hdX, hdnX⟩ := Cond.laysAt hfound hk hffS (a' (.lays Bundle.nN Bundle.nN "extendedMessageState" "I") (by simp [Bundle.npeArmAtoms, Bundle.npeAtoms]))
  obtain ⟨hnX, htX⟩ := State.fieldFound?_type hffS (t := .int) (by decide +kernel)
  have xC := Cond.laysApart hdC hdX hdnC hdnX (by rw [hnX, Y.causeName]; decide)
  have xS := Cond.laysApart hdS hdX hdnS hdnX (by rw [hnX, Y.stackName]; decide)
  have xP := Cond.laysApart hdP hdX hdnP hdnX (by rw [hnX, Y.suppName]; decide)
  have hv0 : (freshCell P1.m.cls N.kN).slots[N.fState.slot]? = some (.int 0) := by
    have := fresh_default (c := P1.m.cls) tyX
    rw [htX] at this; exact this
  obtain ⟨tyB, dB, hdB, hdnB⟩ := Cond.laysAt hfound hk hffB (a' (.lays Bundle.nN Bundle.tN "backtrace" Bundle.objD) (by simp [Bundle.npeArmAtoms]))
  have bC := Cond.laysApart hdB hdC hdnB hdnC (by rw [hnB, Y.causeName]; decide)
  have bS := Cond.laysApart hdB hdS hdnB hdnS (by rw [hnB, Y.stackName]; decide)
  have bP := Cond.laysApart hdB hdP hdnB hdnP (by rw [hnB, Y.suppName]; decide)
  have bX := Cond.laysApart hdB hdX hdnB hdnX (by rw [hnB, hnX]; decide)
  have hbk : ((npeCell N.toNpeT (preparedCellV T.toThrowableT (freshCell P1.m.cls N.kN) W.heap.size u0 sen) W.cur).withEntry W.cur).slots[fB.slot]? = some .null := by
    have := fresh_default (c := P1.m.cls) tyB
    rw [htB] at this
    simpa [npeCell, preparedCellV, Cell.setSlot, Cell.withEntry, Array.getElem?_setIfInBounds, bC, bS, bP, bX, bC.symm, bS.symm, bP.symm, bX.symm, defaultValue] using this
  have tkC := Takes.of_laid (v := .ref W.heap.size) hk hordN tyC (by rw [Y.causeType]; rfl)
  have tkS := Takes.of_laid (v := u0.v) hk hordN tyS (by rw [Y.stackType]; exact fits_refV_array _ u0)
  have tkP := Takes.of_laid (v := sen.v) hk hordN tyP (by rw [Y.suppType]; exact fits_refV_object _ sen)
  have tkX := Takes.of_laid (v := .int 1) hk hordN tyX (by rw [htX]; rfl)
  have hskip : SkipFacts T e.platform s (fun u => u) u0 ((npeCell N.toNpeT (preparedCellV T.toThrowableT (freshCell P1.m.cls N.kN) W.heap.size u0 sen) W.cur).withEntry W.cur) := ⟨{ ci198 := ci198, i198 := i198, fBack := fB }, ⟨hk198, hg198, ha198, hsB⟩, hbk, fun _ _ => rfl⟩
  obtain ⟨vm', X3, st, -⟩ := X.throwsNpeColdBareVAt hexec hg hsize T L Z LZ N LN P1 L1 [PR, PE] hLs hlink1 ⟨hlinkR, hlinkE, trivial⟩ hfound hk hinit hordN hctor hsel0 hselF hcellS hknownS hvU hvSen
    hv0 xC xS xP tkC tkS tkP tkX Y.objLocals hskip (fun _ _ hA hW _ hroom _ hrest => L.nativeOff p htr hA hW hroom hrest) (by simpa using hRframes) hRlocals (by simp) hRcells (by rw [hn]; exact hRslots)
  have hlt : W.heap.size < ((W.pushCell (freshCell P1.m.cls N.kN)).setVm vm').heap.size := by
    show W.heap.size < (W.pushCell (freshCell P1.m.cls N.kN)).heap.size
    rw [State.heap_size_pushCell]; omega
  rw [hfsz] at X3
  obtain ⟨g₁, hfrM⟩ := X3.frames_eq
  have hU : ((((W.pushCell (freshCell P1.m.cls N.kN)).setVm vm').setCell W.heap.size (npeBareV T.toThrowableT N.toNpeT (freshCell P1.m.cls N.kN) W.heap.size u0 sen)).setTop g).pushFrame (.throwing W.heap.size) = (((W.pushCell (freshCell P1.m.cls N.kN)).setVm vm').setCell W.heap.size (npeBareV T.toThrowableT N.toNpeT (freshCell P1.m.cls N.kN) W.heap.size u0 sen)).setFrames (.throwing W.heap.size :: .java g :: below) := by
    rw [State.pushFrame, State.frames_setTop _ hfrM, State.setTop_of_frames _ hfrM, State.setFrames_setFrames]
  refine ⟨_, W.heap.size, _, fun target ht => st.trans (by rw [← hU]; exact ht), X3.forget (fun y hy => ?_), heapAt_setCell_self _ hlt, hfound, rfl⟩
  simp only [List.mem_cons, List.not_mem_nil, or_false] at hy
  have hge : s.heap.size ≤ W.heap.size := X.same.2.1
  rcases hy with rfl | rfl | rfl | rfl | rfl <;> exact hge
/-- the words of a machine's NullPointerException, but the four that speak of the heap -/
def vx_atN (n : Nat) : List Cond := (Bundle.npeArmAtoms n).filter vx_no
/-- the words of a machine's throw with a message, but the four that speak of the heap -/
def vx_atM (X : String) (names : List String) : List Cond := (Bundle.messageArmAtoms X names).filter vx_no
section
variable {p : Program} {l : Launch} {e : Env} {R : Room} {s : State} {m : MethodId} {args : Array Value} {below : List Frame} {meth : Method} {c : Code} {H : Heap} {locs : List Loc} {cells slots : Nat}
/-- a frame seen from a rebased start, seen from the first start again -/
theorem vx_back9 {T S : State} {R' : Room} {k n : Nat} (X : Stand p l e R s m args below meth c T locs cells slots) (Y : Stand p l e R' ((T.setVm s.vm).setFrames (.invoking m args :: below)) m args below meth c T [] 0 0) (Z : Stand p l e R' ((T.setVm s.vm).setFrames (.invoking m args :: below)) m args below meth c S [] k n) :
    Stand p l e R s m args below meth c S locs (cells + k) (slots + n) := by
  have hW0 : s.WarmedH ((T.setVm s.vm).setFrames (.invoking m args :: below)).vm := State.WarmedH.refl s
  refine { admits := X.admits, cas := X.cas, clock := X.clock, frames := X.frames, room := X.room, hears := X.hears, method := X.method, code := X.code, here := Z.here, tail := Z.tail, warmed := State.WarmedH.trans hW0 Z.warmed, limits := Z.limits.trans (Y.limits.symm.trans X.limits), bytes := Z.bytes.trans (Y.bytes.symm.trans X.bytes), same := ?_ }
  obtain ⟨e1, e2⟩ := Z.same
  rw [State.setFrames_setFrames] at e1
  have h2 : (T.setVm s.vm).sameButNew (S.setVm s.vm) [] k n := ⟨e1, e2⟩
  have h3 := X.same.trans h2
  rw [List.append_nil] at h3
  exact h3
/-- from the machine's note that E is thrown here with this text -/
def vx_Note (p : Program) (l : Launch) (e : Env) (R : Room) (s : State) (m : MethodId) (args : Array Value) (below : List Frame) (meth : Method) (c : Code) (H : Heap) (locs : List Loc) (cells slots : Nat) (Q : State → Prop) (g : JFrame) (E text : String) : Prop :=
  ∀ T : State, T.heap = H → Stand p l e R s m args below meth c T locs cells slots → ∃ t, Steps p.tables e below ((T.setTop g).pushFrame (.throwNew E (some text) none)) t ∧ Q t
theorem vx_vm {pc : Nat} {ls : Array Slot} {rest : List Value} {Q : State → Prop} (hexec : p.tables.exec = Jvm.exec) (hl : l.stackTraces = false) {cls text : String} {names : List String} {nb : Nat} {A : Nat → Prop}
    (hcls : Bundle.fit cls = true) (hnames : ∀ n ∈ names, Bundle.fit n = true) (hsoe : (cls == "java/lang/StackOverflowError") = false) (hoom : (cls == "java/lang/OutOfMemoryError") = false)
    (hat : ∀ w ∈ vx_atM cls names, w.before args s = true) (hgood : ∀ w ∈ vx_atM cls names, vx_ot w = true)
    (hU : vx_Zq Bundle.tN "UNASSIGNED_STACK" Bundle.steD A s s.heap) (hN : vx_Zq Bundle.tN "SUPPRESSED_SENTINEL" Bundle.listD A s s.heap) (hS : va_S A s.heap H locs) (hsize : ls.size = c.maxLocals)
    (htext : (text == notModelled) = false) (hnb : (stringBytes (stringToUtf16 text)).size ≤ nb) (hnb1 : nb ≤ 1000)
    (hRframes : names.length + 4 < R.frames) (hRlocals : (rest.map fun v => v.category).sum + 10240 ≤ R.locals) (hshort : 13 * names.length + 55 ≤ 10240) (hRcells : cells + 3 ≤ R.cells) (hRslots : slots + (nb + 10) ≤ R.slots) (hlocks : meth.locks = false)
    (k : ∀ (H1 : Heap) (q9 : Addr) (ce : Cell), H.size ≤ H1.size → (∀ q : Nat, q < H.size → H1[q]? = H[q]?) → va_S A s.heap H1 locs → H1[q9]? = some ce → ce.vm = .none → s.vm.findClass cls = some ce.cls → vx_W p l e R s m args below meth c H1 locs (cells + 3) (slots + (nb + 10)) Q (F0 m pc ls rest) q9) :
    vx_Note p l e R s m args below meth c H locs cells slots Q (F0 m pc ls rest) cls text := by
  intro T hT X
  have htr : e.platform.stackTraces = false := (show e.platform.stackTraces = l.stackTraces by rw [X.admits.platform]).trans hl
  have Y := vx_rebase X (R' := { frames := R.frames, locals := R.locals, cells := 3, slots := nb + 10 }) (Nat.le_refl _) (Nat.le_refl _) hRcells hRslots
  have hhp : ((T.setVm s.vm).setFrames (.invoking m args :: below)).heap = H := hT
  have hW0 : s.WarmedH ((T.setVm s.vm).setFrames (.invoking m args :: below)).vm := State.WarmedH.refl s
  have hat' : ∀ w ∈ vx_atM cls names, w.before args ((T.setVm s.vm).setFrames (.invoking m args :: below)) = true := fun w hw => vx_ot_at hW0 rfl (hgood w hw) (hat w hw)
  have hU' : vx_Zq Bundle.tN "UNASSIGNED_STACK" Bundle.steD A ((T.setVm s.vm).setFrames (.invoking m args :: below)) ((T.setVm s.vm).setFrames (.invoking m args :: below)).heap := by rw [hhp]; exact vx_Zq.moved hW0.alike (hU.kept hS.2.1)
  have hN' : vx_Zq Bundle.tN "SUPPRESSED_SENTINEL" Bundle.listD A ((T.setVm s.vm).setFrames (.invoking m args :: below)) ((T.setVm s.vm).setFrames (.invoking m args :: below)).heap := by rw [hhp]; exact vx_Zq.moved hW0.alike (hN.kept hS.2.1)
  obtain ⟨S, q, ce, st, Z, hce, hcl', hv⟩ := vx_vmAt Y hexec htr (cls := cls) (names := names) (text := text) hcls hnames hsoe hoom (vx_own hat' (vx_isRefq hU'.1) (vx_isRefq hN'.1) hU'.2.word hN'.2.word) (fun x hx => nomatch hx) htext
    (by rw [Launch.admits_arrayLengthLimit X.admits]; omega) (by rw [Launch.admits_maxHeapBytes X.admits]; simp only [componentBytes]; omega)
    (g := F0 m pc ls rest) rfl hsize hRframes (by show 2 * 0 + (rest.map fun v => v.category).sum + 10240 ≤ R.locals; omega) hshort (by show 0 + 3 ≤ 3; omega) (by show 0 + (_ + 4 + 6) ≤ nb + 10; omega) hlocks
  obtain ⟨f1, f2⟩ := vx_frame Z.same
  have f1' : H.size ≤ S.heap.size := by rw [← hT]; exact f1
  have f2' : ∀ q : Nat, q < H.size → S.heap[q]? = H[q]? := fun q hq => by
    rw [← hT]
    exact f2 q (by rw [← hT] at hq; exact hq) (fun z hz => nomatch hz)
  have X5 := vx_back9 X Y Z
  have X6 : Stand p l e R s m args below meth c S locs (cells + 3) (slots + (nb + 10)) := { X5 with same := X5.same.mono (by omega) (by omega) }
  obtain ⟨t, a1, b1⟩ := k S.heap q ce f1' f2' ⟨Nat.le_trans hS.1 f1', fun q h1 h2 => (f2' q (Nat.lt_of_lt_of_le h1 hS.1)).trans (hS.2.1 q h1 h2), hS.2.2⟩ hce hv hcl' S rfl X6
  exact ⟨t, st t a1, b1⟩
/-- from the machine's note that NullPointerException is thrown here -/
def vx_NoteN (p : Program) (l : Launch) (e : Env) (R : Room) (s : State) (m : MethodId) (args : Array Value) (below : List Frame) (meth : Method) (c : Code) (H : Heap) (locs : List Loc) (cells slots : Nat) (Q : State → Prop) (g : JFrame) : Prop :=
  ∀ T : State, T.heap = H → Stand p l e R s m args below meth c T locs cells slots → ∃ t, Steps p.tables e below ((T.setTop g).pushFrame (.throwNew "java/lang/NullPointerException" none none)) t ∧ Q t
theorem vx_npe {pc : Nat} {ls : Array Slot} {rest : List Value} {Q : State → Prop} (hexec : p.tables.exec = Jvm.exec) (hl : l.stackTraces = false) {nb : Nat} {A : Nat → Prop}
    (hat : ∀ w ∈ vx_atN nb, w.before args s = true) (hgood : ∀ w ∈ vx_atN nb, vx_ot w = true)
    (hU : vx_Zq Bundle.tN "UNASSIGNED_STACK" Bundle.steD A s s.heap) (hN : vx_Zq Bundle.tN "SUPPRESSED_SENTINEL" Bundle.listD A s s.heap) (hS : va_S A s.heap H locs) (hsize : ls.size = c.maxLocals)
    (hRframes : 7 < R.frames) (hRlocals : (rest.map fun v => v.category).sum + 10240 ≤ R.locals) (hRcells : cells + 1 ≤ R.cells) (hRslots : slots + nb ≤ R.slots) (hlocks : meth.locks = false)
    (k : ∀ (H1 : Heap) (q9 : Addr) (ce : Cell), H.size ≤ H1.size → (∀ q : Nat, q < H.size → H1[q]? = H[q]?) → va_S A s.heap H1 locs → H1[q9]? = some ce → ce.vm = .none → s.vm.findClass "java/lang/NullPointerException" = some ce.cls → vx_W p l e R s m args below meth c H1 locs (cells + 1) (slots + nb) Q (F0 m pc ls rest) q9) :
    vx_NoteN p l e R s m args below meth c H locs cells slots Q (F0 m pc ls rest) := by
  intro T hT X
  have htr : e.platform.stackTraces = false := (show e.platform.stackTraces = l.stackTraces by rw [X.admits.platform]).trans hl
  have Y := vx_rebase X (R' := { frames := R.frames, locals := R.locals, cells := 1, slots := nb }) (Nat.le_refl _) (Nat.le_refl _) hRcells hRslots
  have hhp : ((T.setVm s.vm).setFrames (.invoking m args :: below)).heap = H := hT
  have hW0 : s.WarmedH ((T.setVm s.vm).setFrames (.invoking m args :: below)).vm := State.WarmedH.refl s
  have hat' : ∀ w ∈ vx_atN nb, w.before args ((T.setVm s.vm).setFrames (.invoking m args :: below)) = true := fun w hw => vx_ot_at hW0 rfl (hgood w hw) (hat w hw)
  have hU' : vx_Zq Bundle.tN "UNASSIGNED_STACK" Bundle.steD A ((T.setVm s.vm).setFrames (.invoking m args :: below)) ((T.setVm s.vm).setFrames (.invoking m args :: below)).heap := by rw [hhp]; exact vx_Zq.moved hW0.alike (hU.kept hS.2.1)
  have hN' : vx_Zq Bundle.tN "SUPPRESSED_SENTINEL" Bundle.listD A ((T.setVm s.vm).setFrames (.invoking m args :: below)) ((T.setVm s.vm).setFrames (.invoking m args :: below)).heap := by rw [hhp]; exact vx_Zq.moved hW0.alike (hN.kept hS.2.1)
  obtain ⟨S, q, ce, st, Z, hce, hcl', hv⟩ := vx_npeAt Y hexec htr (n := nb) (vx_own hat' (vx_isRefq hU'.1) (vx_isRefq hN'.1) hU'.2.word hN'.2.word) (fun x hx => nomatch hx)
    (g := F0 m pc ls rest) rfl hsize hRframes (by show 2 * 0 + (rest.map fun v => v.category).sum + 10240 ≤ R.locals; omega) (by show 0 + 1 ≤ 1; omega) (by show 0 + nb ≤ nb; omega) hlocks
  obtain ⟨f1, f2⟩ := vx_frame Z.same
  have f1' : H.size ≤ S.heap.size := by rw [← hT]; exact f1
  have f2' : ∀ q : Nat, q < H.size → S.heap[q]? = H[q]? := fun q hq => by
    rw [← hT]
    exact f2 q (by rw [← hT] at hq; exact hq) (fun z hz => nomatch hz)
  have X5 := vx_back9 X Y Z
  have X6 : Stand p l e R s m args below meth c S locs (cells + 1) (slots + nb) := { X5 with same := X5.same.mono (by omega) (by omega) }
  obtain ⟨t, a1, b1⟩ := k S.heap q ce f1' f2' ⟨Nat.le_trans hS.1 f1', fun q h1 h2 => (f2' q (Nat.lt_of_lt_of_le h1 hS.1)).trans (hS.2.1 q h1 h2), hS.2.2⟩ hce hv hcl' S rfl X6
  exact ⟨t, st t a1, b1⟩
variable {Q : State → Prop} {cc : ByteArray} {pc : Nat} {ls : Array Slot} {rest : List Value}
theorem vx_idivZ (hexec : p.tables.exec = Jvm.exec) (hb : c.code = cc) {a b : Int32} (h0 : b = 0) (d : decode cc pc = .ok (.idiv, 1)) (k : vx_Note p l e R s m args below meth c H locs cells slots Q (F0 m pc ls rest) "java/lang/ArithmeticException" "/ by zero") :
    W p l e R s m args below meth c H locs cells slots Q (F0 m pc ls (.int b :: .int a :: rest)) := by
  intro T hT X
  obtain ⟨t, st, q⟩ := k T hT X
  exact ⟨t, X.idivZero hexec (g := F0 m pc ls (.int b :: .int a :: rest)) rfl (a := a) (rest := rest) (by rw [h0]) (by rw [hb]; exact d) t st, q⟩
theorem vx_iremZ (hexec : p.tables.exec = Jvm.exec) (hb : c.code = cc) {a b : Int32} (h0 : b = 0) (d : decode cc pc = .ok (.irem, 1)) (k : vx_Note p l e R s m args below meth c H locs cells slots Q (F0 m pc ls rest) "java/lang/ArithmeticException" "/ by zero") :
    W p l e R s m args below meth c H locs cells slots Q (F0 m pc ls (.int b :: .int a :: rest)) := by
  intro T hT X
  obtain ⟨t, st, q⟩ := k T hT X
  exact ⟨t, X.iremZero hexec (g := F0 m pc ls (.int b :: .int a :: rest)) rfl (a := a) (rest := rest) (by rw [h0]) (by rw [hb]; exact d) t st, q⟩
theorem vx_ldivZ (hexec : p.tables.exec = Jvm.exec) (hb : c.code = cc) {a b : Int64} (h0 : b = 0) (d : decode cc pc = .ok (.ldiv, 1)) (k : vx_Note p l e R s m args below meth c H locs cells slots Q (F0 m pc ls rest) "java/lang/ArithmeticException" "/ by zero") :
    W p l e R s m args below meth c H locs cells slots Q (F0 m pc ls (.long b :: .long a :: rest)) := by
  intro T hT X
  obtain ⟨t, st, q⟩ := k T hT X
  exact ⟨t, X.ldivZero hexec (g := F0 m pc ls (.long b :: .long a :: rest)) rfl (a := a) (rest := rest) (by rw [h0]) (by rw [hb]; exact d) t st, q⟩
theorem vx_lremZ (hexec : p.tables.exec = Jvm.exec) (hb : c.code = cc) {a b : Int64} (h0 : b = 0) (d : decode cc pc = .ok (.lrem, 1)) (k : vx_Note p l e R s m args below meth c H locs cells slots Q (F0 m pc ls rest) "java/lang/ArithmeticException" "/ by zero") :
    W p l e R s m args below meth c H locs cells slots Q (F0 m pc ls (.long b :: .long a :: rest)) := by
  intro T hT X
  obtain ⟨t, st, q⟩ := k T hT X
  exact ⟨t, X.lremZero hexec (g := F0 m pc ls (.long b :: .long a :: rest)) rfl (a := a) (rest := rest) (by rw [h0]) (by rw [hb]; exact d) t st, q⟩
theorem vx_ialdZ {D : va_G} {cl : List vw_C} {ws : va_W} {tys : List (ClassId × FieldType)} {a : Nat} (hexec : p.tables.exec = Jvm.exec) (hb : c.code = cc) (hK : va_K D cl tys s) (hP : va_P D cl ws H) (q0 t0 : Nat) {cA : ClassId} {n : Nat} {f : Nat → Int32} (ha : ws[q0]? = some (a, .inl (cA, n, .inl f))) (ht : tys[t0]? = some (cA, .int)) {i : Int32} (hout : ¬ vp_in i n) (hdg : decode cc pc = .ok (.iaload, 1))
    (k : ∀ tx : String, tx = (toString "Index " ++ toString i ++ toString " out of bounds for length " ++ toString n : String) → vx_Note p l e R s m args below meth c H locs cells slots Q (F0 m pc ls rest) "java/lang/ArrayIndexOutOfBoundsException" tx) : W p l e R s m args below meth c H locs cells slots Q (F0 m pc ls (.int i :: .ref a :: rest)) := by
  intro T hT X
  obtain ⟨t, st, q⟩ := k _ rfl T hT X
  refine ⟨t, ?_, q⟩
  have h1 := X.ialoadOut hexec (by rw [hT]; exact hP q0 _ ha) ((hK.2 t0 _ ht).1 n (fun j => .int (f j))) (j := i) (by show (i < 0 ∨ (arrV _ _ _).slots.size ≤ _); rw [arrV_size]; exact Classical.byContradiction hout) (g := F0 m pc ls (.int i :: .ref a :: rest)) rfl (rest := rest) rfl (by rw [hb]; exact hdg) t
  simp only [arrV_size] at h1
  exact h1 st
theorem vx_iastZ {D : va_G} {cl : List vw_C} {ws : va_W} {tys : List (ClassId × FieldType)} {a : Nat} (hexec : p.tables.exec = Jvm.exec) (hb : c.code = cc) (hK : va_K D cl tys s) (hP : va_P D cl ws H) (q0 t0 : Nat) {cA : ClassId} {n : Nat} {f : Nat → Int32} (ha : ws[q0]? = some (a, .inl (cA, n, .inl f))) (ht : tys[t0]? = some (cA, .int)) {i : Int32} {x : Int32} (hout : ¬ vp_in i n) (hdg : decode cc pc = .ok (.iastore, 1))
    (k : ∀ tx : String, tx = (toString "Index " ++ toString i ++ toString " out of bounds for length " ++ toString n : String) → vx_Note p l e R s m args below meth c H locs cells slots Q (F0 m pc ls rest) "java/lang/ArrayIndexOutOfBoundsException" tx) : W p l e R s m args below meth c H locs cells slots Q (F0 m pc ls (.int x :: .int i :: .ref a :: rest)) := by
  intro T hT X
  obtain ⟨t, st, q⟩ := k _ rfl T hT X
  refine ⟨t, ?_, q⟩
  have h1 := X.iastoreOut hexec (by rw [hT]; exact hP q0 _ ha) ((hK.2 t0 _ ht).1 n (fun j => .int (f j))) (j := i) (by show (i < 0 ∨ (arrV _ _ _).slots.size ≤ _); rw [arrV_size]; exact Classical.byContradiction hout) (g := F0 m pc ls (.int x :: .int i :: .ref a :: rest)) rfl (rest := rest) rfl (by rw [hb]; exact hdg) t
  simp only [arrV_size] at h1
  exact h1 st
theorem vx_baldZ {D : va_G} {cl : List vw_C} {ws : va_W} {tys : List (ClassId × FieldType)} {a : Nat} (hexec : p.tables.exec = Jvm.exec) (hb : c.code = cc) (hK : va_K D cl tys s) (hP : va_P D cl ws H) (q0 t0 : Nat) {cA : ClassId} {n : Nat} {f : Nat → Int32} (ha : ws[q0]? = some (a, .inl (cA, n, .inl f))) (ht : tys[t0]? = some (cA, .byte)) {i : Int32} (hout : ¬ vp_in i n) (hdg : decode cc pc = .ok (.baload, 1))
    (k : ∀ tx : String, tx = (toString "Index " ++ toString i ++ toString " out of bounds for length " ++ toString n : String) → vx_Note p l e R s m args below meth c H locs cells slots Q (F0 m pc ls rest) "java/lang/ArrayIndexOutOfBoundsException" tx) : W p l e R s m args below meth c H locs cells slots Q (F0 m pc ls (.int i :: .ref a :: rest)) := by
  intro T hT X
  obtain ⟨t, st, q⟩ := k _ rfl T hT X
  refine ⟨t, ?_, q⟩
  have h1 := X.baloadOut hexec (by rw [hT]; exact hP q0 _ ha) ((hK.2 t0 _ ht).1 n (fun j => .int (f j))) (j := i) (by show (i < 0 ∨ (arrV _ _ _).slots.size ≤ _); rw [arrV_size]; exact Classical.byContradiction hout) (g := F0 m pc ls (.int i :: .ref a :: rest)) rfl (rest := rest) rfl (by rw [hb]; exact hdg) t
  simp only [arrV_size] at h1
  exact h1 st
theorem vx_bastZ {D : va_G} {cl : List vw_C} {ws : va_W} {tys : List (ClassId × FieldType)} {a : Nat} (hexec : p.tables.exec = Jvm.exec) (hb : c.code = cc) (hK : va_K D cl tys s) (hP : va_P D cl ws H) (q0 t0 : Nat) {cA : ClassId} {n : Nat} {f : Nat → Int32} (ha : ws[q0]? = some (a, .inl (cA, n, .inl f))) (ht : tys[t0]? = some (cA, .byte)) {i : Int32} {x : Int32} (hout : ¬ vp_in i n) (hdg : decode cc pc = .ok (.bastore, 1))
    (k : ∀ tx : String, tx = (toString "Index " ++ toString i ++ toString " out of bounds for length " ++ toString n : String) → vx_Note p l e R s m args below meth c H locs cells slots Q (F0 m pc ls rest) "java/lang/ArrayIndexOutOfBoundsException" tx) : W p l e R s m args below meth c H locs cells slots Q (F0 m pc ls (.int x :: .int i :: .ref a :: rest)) := by
  intro T hT X
  obtain ⟨t, st, q⟩ := k _ rfl T hT X
  refine ⟨t, ?_, q⟩
  have h1 := X.bastoreOut hexec (by rw [hT]; exact hP q0 _ ha) ((hK.2 t0 _ ht).1 n (fun j => .int (f j))) (j := i) (by show (i < 0 ∨ (arrV _ _ _).slots.size ≤ _); rw [arrV_size]; exact Classical.byContradiction hout) (g := F0 m pc ls (.int x :: .int i :: .ref a :: rest)) rfl (rest := rest) rfl (by rw [hb]; exact hdg) t
  simp only [arrV_size] at h1
  exact h1 st
theorem vx_zaldZ {D : va_G} {cl : List vw_C} {ws : va_W} {tys : List (ClassId × FieldType)} {a : Nat} (hexec : p.tables.exec = Jvm.exec) (hb : c.code = cc) (hK : va_K D cl tys s) (hP : va_P D cl ws H) (q0 t0 : Nat) {cA : ClassId} {n : Nat} {f : Nat → Int32} (ha : ws[q0]? = some (a, .inl (cA, n, .inl f))) (ht : tys[t0]? = some (cA, .boolean)) {i : Int32} (hout : ¬ vp_in i n) (hdg : decode cc pc = .ok (.baload, 1))
    (k : ∀ tx : String, tx = (toString "Index " ++ toString i ++ toString " out of bounds for length " ++ toString n : String) → vx_Note p l e R s m args below meth c H locs cells slots Q (F0 m pc ls rest) "java/lang/ArrayIndexOutOfBoundsException" tx) : W p l e R s m args below meth c H locs cells slots Q (F0 m pc ls (.int i :: .ref a :: rest)) := by
  intro T hT X
  obtain ⟨t, st, q⟩ := k _ rfl T hT X
  refine ⟨t, ?_, q⟩
  have h1 := X.baloadOut hexec (by rw [hT]; exact hP q0 _ ha) ((hK.2 t0 _ ht).1 n (fun j => .int (f j))) (j := i) (by show (i < 0 ∨ (arrV _ _ _).slots.size ≤ _); rw [arrV_size]; exact Classical.byContradiction hout) (g := F0 m pc ls (.int i :: .ref a :: rest)) rfl (rest := rest) rfl (by rw [hb]; exact hdg) t
  simp only [arrV_size] at h1
  exact h1 st
theorem vx_zastZ {D : va_G} {cl : List vw_C} {ws : va_W} {tys : List (ClassId × FieldType)} {a : Nat} (hexec : p.tables.exec = Jvm.exec) (hb : c.code = cc) (hK : va_K D cl tys s) (hP : va_P D cl ws H) (q0 t0 : Nat) {cA : ClassId} {n : Nat} {f : Nat → Int32} (ha : ws[q0]? = some (a, .inl (cA, n, .inl f))) (ht : tys[t0]? = some (cA, .boolean)) {i : Int32} {x : Int32} (hout : ¬ vp_in i n) (hdg : decode cc pc = .ok (.bastore, 1))
    (k : ∀ tx : String, tx = (toString "Index " ++ toString i ++ toString " out of bounds for length " ++ toString n : String) → vx_Note p l e R s m args below meth c H locs cells slots Q (F0 m pc ls rest) "java/lang/ArrayIndexOutOfBoundsException" tx) : W p l e R s m args below meth c H locs cells slots Q (F0 m pc ls (.int x :: .int i :: .ref a :: rest)) := by
  intro T hT X
  obtain ⟨t, st, q⟩ := k _ rfl T hT X
  refine ⟨t, ?_, q⟩
  have h1 := X.bastoreOut hexec (by rw [hT]; exact hP q0 _ ha) ((hK.2 t0 _ ht).1 n (fun j => .int (f j))) (j := i) (by show (i < 0 ∨ (arrV _ _ _).slots.size ≤ _); rw [arrV_size]; exact Classical.byContradiction hout) (g := F0 m pc ls (.int x :: .int i :: .ref a :: rest)) rfl (rest := rest) rfl (by rw [hb]; exact hdg) t
  simp only [arrV_size] at h1
  exact h1 st
theorem vx_caldZ {D : va_G} {cl : List vw_C} {ws : va_W} {tys : List (ClassId × FieldType)} {a : Nat} (hexec : p.tables.exec = Jvm.exec) (hb : c.code = cc) (hK : va_K D cl tys s) (hP : va_P D cl ws H) (q0 t0 : Nat) {cA : ClassId} {n : Nat} {f : Nat → Int32} (ha : ws[q0]? = some (a, .inl (cA, n, .inl f))) (ht : tys[t0]? = some (cA, .char)) {i : Int32} (hout : ¬ vp_in i n) (hdg : decode cc pc = .ok (.caload, 1))
    (k : ∀ tx : String, tx = (toString "Index " ++ toString i ++ toString " out of bounds for length " ++ toString n : String) → vx_Note p l e R s m args below meth c H locs cells slots Q (F0 m pc ls rest) "java/lang/ArrayIndexOutOfBoundsException" tx) : W p l e R s m args below meth c H locs cells slots Q (F0 m pc ls (.int i :: .ref a :: rest)) := by
  intro T hT X
  obtain ⟨t, st, q⟩ := k _ rfl T hT X
  refine ⟨t, ?_, q⟩
  have h1 := X.caloadOut hexec (by rw [hT]; exact hP q0 _ ha) ((hK.2 t0 _ ht).1 n (fun j => .int (f j))) (j := i) (by show (i < 0 ∨ (arrV _ _ _).slots.size ≤ _); rw [arrV_size]; exact Classical.byContradiction hout) (g := F0 m pc ls (.int i :: .ref a :: rest)) rfl (rest := rest) rfl (by rw [hb]; exact hdg) t
  simp only [arrV_size] at h1
  exact h1 st
theorem vx_castZ {D : va_G} {cl : List vw_C} {ws : va_W} {tys : List (ClassId × FieldType)} {a : Nat} (hexec : p.tables.exec = Jvm.exec) (hb : c.code = cc) (hK : va_K D cl tys s) (hP : va_P D cl ws H) (q0 t0 : Nat) {cA : ClassId} {n : Nat} {f : Nat → Int32} (ha : ws[q0]? = some (a, .inl (cA, n, .inl f))) (ht : tys[t0]? = some (cA, .char)) {i : Int32} {x : Int32} (hout : ¬ vp_in i n) (hdg : decode cc pc = .ok (.castore, 1))
    (k : ∀ tx : String, tx = (toString "Index " ++ toString i ++ toString " out of bounds for length " ++ toString n : String) → vx_Note p l e R s m args below meth c H locs cells slots Q (F0 m pc ls rest) "java/lang/ArrayIndexOutOfBoundsException" tx) : W p l e R s m args below meth c H locs cells slots Q (F0 m pc ls (.int x :: .int i :: .ref a :: rest)) := by
  intro T hT X
  obtain ⟨t, st, q⟩ := k _ rfl T hT X
  refine ⟨t, ?_, q⟩
  have h1 := X.castoreOut hexec (by rw [hT]; exact hP q0 _ ha) ((hK.2 t0 _ ht).1 n (fun j => .int (f j))) (j := i) (by show (i < 0 ∨ (arrV _ _ _).slots.size ≤ _); rw [arrV_size]; exact Classical.byContradiction hout) (g := F0 m pc ls (.int x :: .int i :: .ref a :: rest)) rfl (rest := rest) rfl (by rw [hb]; exact hdg) t
  simp only [arrV_size] at h1
  exact h1 st
theorem vx_saldZ {D : va_G} {cl : List vw_C} {ws : va_W} {tys : List (ClassId × FieldType)} {a : Nat} (hexec : p.tables.exec = Jvm.exec) (hb : c.code = cc) (hK : va_K D cl tys s) (hP : va_P D cl ws H) (q0 t0 : Nat) {cA : ClassId} {n : Nat} {f : Nat → Int32} (ha : ws[q0]? = some (a, .inl (cA, n, .inl f))) (ht : tys[t0]? = some (cA, .short)) {i : Int32} (hout : ¬ vp_in i n) (hdg : decode cc pc = .ok (.saload, 1))
    (k : ∀ tx : String, tx = (toString "Index " ++ toString i ++ toString " out of bounds for length " ++ toString n : String) → vx_Note p l e R s m args below meth c H locs cells slots Q (F0 m pc ls rest) "java/lang/ArrayIndexOutOfBoundsException" tx) : W p l e R s m args below meth c H locs cells slots Q (F0 m pc ls (.int i :: .ref a :: rest)) := by
  intro T hT X
  obtain ⟨t, st, q⟩ := k _ rfl T hT X
  refine ⟨t, ?_, q⟩
  have h1 := X.saloadOut hexec (by rw [hT]; exact hP q0 _ ha) ((hK.2 t0 _ ht).1 n (fun j => .int (f j))) (j := i) (by show (i < 0 ∨ (arrV _ _ _).slots.size ≤ _); rw [arrV_size]; exact Classical.byContradiction hout) (g := F0 m pc ls (.int i :: .ref a :: rest)) rfl (rest := rest) rfl (by rw [hb]; exact hdg) t
  simp only [arrV_size] at h1
  exact h1 st
theorem vx_sastZ {D : va_G} {cl : List vw_C} {ws : va_W} {tys : List (ClassId × FieldType)} {a : Nat} (hexec : p.tables.exec = Jvm.exec) (hb : c.code = cc) (hK : va_K D cl tys s) (hP : va_P D cl ws H) (q0 t0 : Nat) {cA : ClassId} {n : Nat} {f : Nat → Int32} (ha : ws[q0]? = some (a, .inl (cA, n, .inl f))) (ht : tys[t0]? = some (cA, .short)) {i : Int32} {x : Int32} (hout : ¬ vp_in i n) (hdg : decode cc pc = .ok (.sastore, 1))
    (k : ∀ tx : String, tx = (toString "Index " ++ toString i ++ toString " out of bounds for length " ++ toString n : String) → vx_Note p l e R s m args below meth c H locs cells slots Q (F0 m pc ls rest) "java/lang/ArrayIndexOutOfBoundsException" tx) : W p l e R s m args below meth c H locs cells slots Q (F0 m pc ls (.int x :: .int i :: .ref a :: rest)) := by
  intro T hT X
  obtain ⟨t, st, q⟩ := k _ rfl T hT X
  refine ⟨t, ?_, q⟩
  have h1 := X.sastoreOut hexec (by rw [hT]; exact hP q0 _ ha) ((hK.2 t0 _ ht).1 n (fun j => .int (f j))) (j := i) (by show (i < 0 ∨ (arrV _ _ _).slots.size ≤ _); rw [arrV_size]; exact Classical.byContradiction hout) (g := F0 m pc ls (.int x :: .int i :: .ref a :: rest)) rfl (rest := rest) rfl (by rw [hb]; exact hdg) t
  simp only [arrV_size] at h1
  exact h1 st
theorem vx_laldZ {D : va_G} {cl : List vw_C} {ws : va_W} {tys : List (ClassId × FieldType)} {a : Nat} (hexec : p.tables.exec = Jvm.exec) (hb : c.code = cc) (hK : va_K D cl tys s) (hP : va_P D cl ws H) (q0 t0 : Nat) {cA : ClassId} {n : Nat} {f : Nat → Int64} (ha : ws[q0]? = some (a, .inl (cA, n, .inr (.inl f)))) (ht : tys[t0]? = some (cA, .long)) {i : Int32} (hout : ¬ vp_in i n) (hdg : decode cc pc = .ok (.laload, 1))
    (k : ∀ tx : String, tx = (toString "Index " ++ toString i ++ toString " out of bounds for length " ++ toString n : String) → vx_Note p l e R s m args below meth c H locs cells slots Q (F0 m pc ls rest) "java/lang/ArrayIndexOutOfBoundsException" tx) : W p l e R s m args below meth c H locs cells slots Q (F0 m pc ls (.int i :: .ref a :: rest)) := by
  intro T hT X
  obtain ⟨t, st, q⟩ := k _ rfl T hT X
  refine ⟨t, ?_, q⟩
  have h1 := X.laloadOut hexec (by rw [hT]; exact hP q0 _ ha) ((hK.2 t0 _ ht).1 n (fun j => .long (f j))) (j := i) (by show (i < 0 ∨ (arrV _ _ _).slots.size ≤ _); rw [arrV_size]; exact Classical.byContradiction hout) (g := F0 m pc ls (.int i :: .ref a :: rest)) rfl (rest := rest) rfl (by rw [hb]; exact hdg) t
  simp only [arrV_size] at h1
  exact h1 st
theorem vx_lastZ {D : va_G} {cl : List vw_C} {ws : va_W} {tys : List (ClassId × FieldType)} {a : Nat} (hexec : p.tables.exec = Jvm.exec) (hb : c.code = cc) (hK : va_K D cl tys s) (hP : va_P D cl ws H) (q0 t0 : Nat) {cA : ClassId} {n : Nat} {f : Nat → Int64} (ha : ws[q0]? = some (a, .inl (cA, n, .inr (.inl f)))) (ht : tys[t0]? = some (cA, .long)) {i : Int32} {x : Int64} (hout : ¬ vp_in i n) (hdg : decode cc pc = .ok (.lastore, 1))
    (k : ∀ tx : String, tx = (toString "Index " ++ toString i ++ toString " out of bounds for length " ++ toString n : String) → vx_Note p l e R s m args below meth c H locs cells slots Q (F0 m pc ls rest) "java/lang/ArrayIndexOutOfBoundsException" tx) : W p l e R s m args below meth c H locs cells slots Q (F0 m pc ls (.long x :: .int i :: .ref a :: rest)) := by
  intro T hT X
  obtain ⟨t, st, q⟩ := k _ rfl T hT X
  refine ⟨t, ?_, q⟩
  have h1 := X.lastoreOut hexec (by rw [hT]; exact hP q0 _ ha) ((hK.2 t0 _ ht).1 n (fun j => .long (f j))) (j := i) (by show (i < 0 ∨ (arrV _ _ _).slots.size ≤ _); rw [arrV_size]; exact Classical.byContradiction hout) (g := F0 m pc ls (.long x :: .int i :: .ref a :: rest)) rfl (rest := rest) rfl (by rw [hb]; exact hdg) t
  simp only [arrV_size] at h1
  exact h1 st
theorem vx_faldZ {D : va_G} {cl : List vw_C} {ws : va_W} {tys : List (ClassId × FieldType)} {a : Nat} (hexec : p.tables.exec = Jvm.exec) (hb : c.code = cc) (hK : va_K D cl tys s) (hP : va_P D cl ws H) (q0 t0 : Nat) {cA : ClassId} {n : Nat} {f : Nat → UInt32} (ha : ws[q0]? = some (a, .inl (cA, n, .inr (.inr (.inl f))))) (ht : tys[t0]? = some (cA, .float)) {i : Int32} (hout : ¬ vp_in i n) (hdg : decode cc pc = .ok (.faload, 1))
    (k : ∀ tx : String, tx = (toString "Index " ++ toString i ++ toString " out of bounds for length " ++ toString n : String) → vx_Note p l e R s m args below meth c H locs cells slots Q (F0 m pc ls rest) "java/lang/ArrayIndexOutOfBoundsException" tx) : W p l e R s m args below meth c H locs cells slots Q (F0 m pc ls (.int i :: .ref a :: rest)) := by
  intro T hT X
  obtain ⟨t, st, q⟩ := k _ rfl T hT X
  refine ⟨t, ?_, q⟩
  have h1 := X.faloadOut hexec (by rw [hT]; exact hP q0 _ ha) ((hK.2 t0 _ ht).1 n (fun j => .float (f j))) (j := i) (by show (i < 0 ∨ (arrV _ _ _).slots.size ≤ _); rw [arrV_size]; exact Classical.byContradiction hout) (g := F0 m pc ls (.int i :: .ref a :: rest)) rfl (rest := rest) rfl (by rw [hb]; exact hdg) t
  simp only [arrV_size] at h1
  exact h1 st
theorem vx_fastZ {D : va_G} {cl : List vw_C} {ws : va_W} {tys : List (ClassId × FieldType)} {a : Nat} (hexec : p.tables.exec = Jvm.exec) (hb : c.code = cc) (hK : va_K D cl tys s) (hP : va_P D cl ws H) (q0 t0 : Nat) {cA : ClassId} {n : Nat} {f : Nat → UInt32} (ha : ws[q0]? = some (a, .inl (cA, n, .inr (.inr (.inl f))))) (ht : tys[t0]? = some (cA, .float)) {i : Int32} {x : UInt32} (hout : ¬ vp_in i n) (hdg : decode cc pc = .ok (.fastore, 1))
    (k : ∀ tx : String, tx = (toString "Index " ++ toString i ++ toString " out of bounds for length " ++ toString n : String) → vx_Note p l e R s m args below meth c H locs cells slots Q (F0 m pc ls rest) "java/lang/ArrayIndexOutOfBoundsException" tx) : W p l e R s m args below meth c H locs cells slots Q (F0 m pc ls (.float x :: .int i :: .ref a :: rest)) := by
  intro T hT X
  obtain ⟨t, st, q⟩ := k _ rfl T hT X
  refine ⟨t, ?_, q⟩
  have h1 := X.fastoreOut hexec (by rw [hT]; exact hP q0 _ ha) ((hK.2 t0 _ ht).1 n (fun j => .float (f j))) (j := i) (by show (i < 0 ∨ (arrV _ _ _).slots.size ≤ _); rw [arrV_size]; exact Classical.byContradiction hout) (g := F0 m pc ls (.float x :: .int i :: .ref a :: rest)) rfl (rest := rest) rfl (by rw [hb]; exact hdg) t
  simp only [arrV_size] at h1
  exact h1 st
theorem vx_daldZ {D : va_G} {cl : List vw_C} {ws : va_W} {tys : List (ClassId × FieldType)} {a : Nat} (hexec : p.tables.exec = Jvm.exec) (hb : c.code = cc) (hK : va_K D cl tys s) (hP : va_P D cl ws H) (q0 t0 : Nat) {cA : ClassId} {n : Nat} {f : Nat → UInt64} (ha : ws[q0]? = some (a, .inl (cA, n, .inr (.inr (.inr (.inl f)))))) (ht : tys[t0]? = some (cA, .double)) {i : Int32} (hout : ¬ vp_in i n) (hdg : decode cc pc = .ok (.daload, 1))
    (k : ∀ tx : String, tx = (toString "Index " ++ toString i ++ toString " out of bounds for length " ++ toString n : String) → vx_Note p l e R s m args below meth c H locs cells slots Q (F0 m pc ls rest) "java/lang/ArrayIndexOutOfBoundsException" tx) : W p l e R s m args below meth c H locs cells slots Q (F0 m pc ls (.int i :: .ref a :: rest)) := by
  intro T hT X
  obtain ⟨t, st, q⟩ := k _ rfl T hT X
  refine ⟨t, ?_, q⟩
  have h1 := X.daloadOut hexec (by rw [hT]; exact hP q0 _ ha) ((hK.2 t0 _ ht).1 n (fun j => .double (f j))) (j := i) (by show (i < 0 ∨ (arrV _ _ _).slots.size ≤ _); rw [arrV_size]; exact Classical.byContradiction hout) (g := F0 m pc ls (.int i :: .ref a :: rest)) rfl (rest := rest) rfl (by rw [hb]; exact hdg) t
  simp only [arrV_size] at h1
  exact h1 st
theorem vx_dastZ {D : va_G} {cl : List vw_C} {ws : va_W} {tys : List (ClassId × FieldType)} {a : Nat} (hexec : p.tables.exec = Jvm.exec) (hb : c.code = cc) (hK : va_K D cl tys s) (hP : va_P D cl ws H) (q0 t0 : Nat) {cA : ClassId} {n : Nat} {f : Nat → UInt64} (ha : ws[q0]? = some (a, .inl (cA, n, .inr (.inr (.inr (.inl f)))))) (ht : tys[t0]? = some (cA, .double)) {i : Int32} {x : UInt64} (hout : ¬ vp_in i n) (hdg : decode cc pc = .ok (.dastore, 1))
    (k : ∀ tx : String, tx = (toString "Index " ++ toString i ++ toString " out of bounds for length " ++ toString n : String) → vx_Note p l e R s m args below meth c H locs cells slots Q (F0 m pc ls rest) "java/lang/ArrayIndexOutOfBoundsException" tx) : W p l e R s m args below meth c H locs cells slots Q (F0 m pc ls (.double x :: .int i :: .ref a :: rest)) := by
  intro T hT X
  obtain ⟨t, st, q⟩ := k _ rfl T hT X
  refine ⟨t, ?_, q⟩
  have h1 := X.dastoreOut hexec (by rw [hT]; exact hP q0 _ ha) ((hK.2 t0 _ ht).1 n (fun j => .double (f j))) (j := i) (by show (i < 0 ∨ (arrV _ _ _).slots.size ≤ _); rw [arrV_size]; exact Classical.byContradiction hout) (g := F0 m pc ls (.double x :: .int i :: .ref a :: rest)) rfl (rest := rest) rfl (by rw [hb]; exact hdg) t
  simp only [arrV_size] at h1
  exact h1 st
theorem vx_arraylengthN (hexec : p.tables.exec = Jvm.exec) (hb : c.code = cc) (hdg : decode cc pc = .ok (.arraylength, 1)) (k : vx_NoteN p l e R s m args below meth c H locs cells slots Q (F0 m pc ls rest)) : W p l e R s m args below meth c H locs cells slots Q (F0 m pc ls (.null :: rest)) := by
  intro T hT X
  obtain ⟨t, st, q⟩ := k T hT X
  exact ⟨t, X.arraylengthNull hexec (g := F0 m pc ls (.null :: rest)) rfl (rest := rest) rfl (by rw [hb]; exact hdg) t st, q⟩
theorem vx_ialoadN (hexec : p.tables.exec = Jvm.exec) (hb : c.code = cc) {i : Int32} (hdg : decode cc pc = .ok (.iaload, 1)) (k : vx_NoteN p l e R s m args below meth c H locs cells slots Q (F0 m pc ls rest)) : W p l e R s m args below meth c H locs cells slots Q (F0 m pc ls (.int i :: .null :: rest)) := by
  intro T hT X
  obtain ⟨t, st, q⟩ := k T hT X
  exact ⟨t, X.ialoadNull hexec (g := F0 m pc ls (.int i :: .null :: rest)) rfl (rest := rest) rfl (by rw [hb]; exact hdg) t st, q⟩
theorem vx_laloadN (hexec : p.tables.exec = Jvm.exec) (hb : c.code = cc) {i : Int32} (hdg : decode cc pc = .ok (.laload, 1)) (k : vx_NoteN p l e R s m args below meth c H locs cells slots Q (F0 m pc ls rest)) : W p l e R s m args below meth c H locs cells slots Q (F0 m pc ls (.int i :: .null :: rest)) := by
  intro T hT X
  obtain ⟨t, st, q⟩ := k T hT X
  exact ⟨t, X.laloadNull hexec (g := F0 m pc ls (.int i :: .null :: rest)) rfl (rest := rest) rfl (by rw [hb]; exact hdg) t st, q⟩
theorem vx_faloadN (hexec : p.tables.exec = Jvm.exec) (hb : c.code = cc) {i : Int32} (hdg : decode cc pc = .ok (.faload, 1)) (k : vx_NoteN p l e R s m args below meth c H locs cells slots Q (F0 m pc ls rest)) : W p l e R s m args below meth c H locs cells slots Q (F0 m pc ls (.int i :: .null :: rest)) := by
  intro T hT X
  obtain ⟨t, st, q⟩ := k T hT X
  exact ⟨t, X.faloadNull hexec (g := F0 m pc ls (.int i :: .null :: rest)) rfl (rest := rest) rfl (by rw [hb]; exact hdg) t st, q⟩
theorem vx_daloadN (hexec : p.tables.exec = Jvm.exec) (hb : c.code = cc) {i : Int32} (hdg : decode cc pc = .ok (.daload, 1)) (k : vx_NoteN p l e R s m args below meth c H locs cells slots Q (F0 m pc ls rest)) : W p l e R s m args below meth c H locs cells slots Q (F0 m pc ls (.int i :: .null :: rest)) := by
  intro T hT X
  obtain ⟨t, st, q⟩ := k T hT X
  exact ⟨t, X.daloadNull hexec (g := F0 m pc ls (.int i :: .null :: rest)) rfl (rest := rest) rfl (by rw [hb]; exact hdg) t st, q⟩
theorem vx_aaloadN (hexec : p.tables.exec = Jvm.exec) (hb : c.code = cc) {i : Int32} (hdg : decode cc pc = .ok (.aaload, 1)) (k : vx_NoteN p l e R s m args below meth c H locs cells slots Q (F0 m pc ls rest)) : W p l e R s m args below meth c H locs cells slots Q (F0 m pc ls (.int i :: .null :: rest)) := by
  intro T hT X
  obtain ⟨t, st, q⟩ := k T hT X
  exact ⟨t, X.aaloadNull hexec (g := F0 m pc ls (.int i :: .null :: rest)) rfl (rest := rest) rfl (by rw [hb]; exact hdg) t st, q⟩
theorem vx_baloadN (hexec : p.tables.exec = Jvm.exec) (hb : c.code = cc) {i : Int32} (hdg : decode cc pc = .ok (.baload, 1)) (k : vx_NoteN p l e R s m args below meth c H locs cells slots Q (F0 m pc ls rest)) : W p l e R s m args below meth c H locs cells slots Q (F0 m pc ls (.int i :: .null :: rest)) := by
  intro T hT X
  obtain ⟨t, st, q⟩ := k T hT X
  exact ⟨t, X.baloadNull hexec (g := F0 m pc ls (.int i :: .null :: rest)) rfl (rest := rest) rfl (by rw [hb]; exact hdg) t st, q⟩
theorem vx_caloadN (hexec : p.tables.exec = Jvm.exec) (hb : c.code = cc) {i : Int32} (hdg : decode cc pc = .ok (.caload, 1)) (k : vx_NoteN p l e R s m args below meth c H locs cells slots Q (F0 m pc ls rest)) : W p l e R s m args below meth c H locs cells slots Q (F0 m pc ls (.int i :: .null :: rest)) := by
  intro T hT X
  obtain ⟨t, st, q⟩ := k T hT X
  exact ⟨t, X.caloadNull hexec (g := F0 m pc ls (.int i :: .null :: rest)) rfl (rest := rest) rfl (by rw [hb]; exact hdg) t st, q⟩
theorem vx_saloadN (hexec : p.tables.exec = Jvm.exec) (hb : c.code = cc) {i : Int32} (hdg : decode cc pc = .ok (.saload, 1)) (k : vx_NoteN p l e R s m args below meth c H locs cells slots Q (F0 m pc ls rest)) : W p l e R s m args below meth c H locs cells slots Q (F0 m pc ls (.int i :: .null :: rest)) := by
  intro T hT X
  obtain ⟨t, st, q⟩ := k T hT X
  exact ⟨t, X.saloadNull hexec (g := F0 m pc ls (.int i :: .null :: rest)) rfl (rest := rest) rfl (by rw [hb]; exact hdg) t st, q⟩
theorem vx_iastoreN (hexec : p.tables.exec = Jvm.exec) (hb : c.code = cc) {x : Int32} {i : Int32} (hdg : decode cc pc = .ok (.iastore, 1)) (k : vx_NoteN p l e R s m args below meth c H locs cells slots Q (F0 m pc ls rest)) : W p l e R s m args below meth c H locs cells slots Q (F0 m pc ls (.int x :: .int i :: .null :: rest)) := by
  intro T hT X
  obtain ⟨t, st, q⟩ := k T hT X
  exact ⟨t, X.iastoreNull hexec (g := F0 m pc ls (.int x :: .int i :: .null :: rest)) rfl (rest := rest) rfl (by rw [hb]; exact hdg) t st, q⟩
theorem vx_lastoreN (hexec : p.tables.exec = Jvm.exec) (hb : c.code = cc) {x : Int64} {i : Int32} (hdg : decode cc pc = .ok (.lastore, 1)) (k : vx_NoteN p l e R s m args below meth c H locs cells slots Q (F0 m pc ls rest)) : W p l e R s m args below meth c H locs cells slots Q (F0 m pc ls (.long x :: .int i :: .null :: rest)) := by
  intro T hT X
  obtain ⟨t, st, q⟩ := k T hT X
  exact ⟨t, X.lastoreNull hexec (g := F0 m pc ls (.long x :: .int i :: .null :: rest)) rfl (rest := rest) rfl (by rw [hb]; exact hdg) t st, q⟩
theorem vx_fastoreN (hexec : p.tables.exec = Jvm.exec) (hb : c.code = cc) {x : UInt32} {i : Int32} (hdg : decode cc pc = .ok (.fastore, 1)) (k : vx_NoteN p l e R s m args below meth c H locs cells slots Q (F0 m pc ls rest)) : W p l e R s m args below meth c H locs cells slots Q (F0 m pc ls (.float x :: .int i :: .null :: rest)) := by
  intro T hT X
  obtain ⟨t, st, q⟩ := k T hT X
  exact ⟨t, X.fastoreNull hexec (g := F0 m pc ls (.float x :: .int i :: .null :: rest)) rfl (rest := rest) rfl (by rw [hb]; exact hdg) t st, q⟩
theorem vx_dastoreN (hexec : p.tables.exec = Jvm.exec) (hb : c.code = cc) {x : UInt64} {i : Int32} (hdg : decode cc pc = .ok (.dastore, 1)) (k : vx_NoteN p l e R s m args below meth c H locs cells slots Q (F0 m pc ls rest)) : W p l e R s m args below meth c H locs cells slots Q (F0 m pc ls (.double x :: .int i :: .null :: rest)) := by
  intro T hT X
  obtain ⟨t, st, q⟩ := k T hT X
  exact ⟨t, X.dastoreNull hexec (g := F0 m pc ls (.double x :: .int i :: .null :: rest)) rfl (rest := rest) rfl (by rw [hb]; exact hdg) t st, q⟩
theorem vx_bastoreN (hexec : p.tables.exec = Jvm.exec) (hb : c.code = cc) {x : Int32} {i : Int32} (hdg : decode cc pc = .ok (.bastore, 1)) (k : vx_NoteN p l e R s m args below meth c H locs cells slots Q (F0 m pc ls rest)) : W p l e R s m args below meth c H locs cells slots Q (F0 m pc ls (.int x :: .int i :: .null :: rest)) := by
  intro T hT X
  obtain ⟨t, st, q⟩ := k T hT X
  exact ⟨t, X.bastoreNull hexec (g := F0 m pc ls (.int x :: .int i :: .null :: rest)) rfl (rest := rest) rfl (by rw [hb]; exact hdg) t st, q⟩
theorem vx_castoreN (hexec : p.tables.exec = Jvm.exec) (hb : c.code = cc) {x : Int32} {i : Int32} (hdg : decode cc pc = .ok (.castore, 1)) (k : vx_NoteN p l e R s m args below meth c H locs cells slots Q (F0 m pc ls rest)) : W p l e R s m args below meth c H locs cells slots Q (F0 m pc ls (.int x :: .int i :: .null :: rest)) := by
  intro T hT X
  obtain ⟨t, st, q⟩ := k T hT X
  exact ⟨t, X.castoreNull hexec (g := F0 m pc ls (.int x :: .int i :: .null :: rest)) rfl (rest := rest) rfl (by rw [hb]; exact hdg) t st, q⟩
theorem vx_sastoreN (hexec : p.tables.exec = Jvm.exec) (hb : c.code = cc) {x : Int32} {i : Int32} (hdg : decode cc pc = .ok (.sastore, 1)) (k : vx_NoteN p l e R s m args below meth c H locs cells slots Q (F0 m pc ls rest)) : W p l e R s m args below meth c H locs cells slots Q (F0 m pc ls (.int x :: .int i :: .null :: rest)) := by
  intro T hT X
  obtain ⟨t, st, q⟩ := k T hT X
  exact ⟨t, X.sastoreNull hexec (g := F0 m pc ls (.int x :: .int i :: .null :: rest)) rfl (rest := rest) rfl (by rw [hb]; exact hdg) t st, q⟩
theorem vx_invokeN {own C : String} {index maxL : Nat} {y : MethodName} {bytes : ByteArray} {ret : Option FieldType} (hexec : p.tables.exec = Jvm.exec) (hb : c.code = cc) (hown : s.vm.findClass own = some m.cls) (hlink : (Cond.methodLink own index y).before args s = true) (hinst : (Cond.instanceMethod y).before args s = true) (hcode : (Cond.code y bytes maxL ret).before args s = true) (hsel : (Cond.selects C y y).before args s = true)
    (hx : y.cls ≠ "java/lang/invoke/MethodHandle" ∧ y.cls ≠ "java/lang/invoke/VarHandle") {As : List Value} (hlen : (parseMethodDescriptor y.desc).map (fun d => d.parameters.length) = some As.length) (hdg : decode cc pc = .ok (.invokevirtual index, 3))
    (k : vx_NoteN p l e R s m args below meth c H locs cells slots Q (F0 m pc ls rest)) {st0 : List Value} (hst : st0 = As.reverse ++ .null :: rest) : W p l e R s m args below meth c H locs cells slots Q (F0 m pc ls st0) := by
  intro T hT X
  obtain ⟨r0, r, hn, hrm, hstR, hsigR⟩ := va_Decl.of hinst hcode
  obtain ⟨c2, r2, m2, q1, q2, q3, q4, kP, hkP, hkPi⟩ := Cond.selects_spec hsel
  cases hn.symm.trans q3
  have hl9 : As.length = r.sig.parameters.length := by
    rw [hsigR] at hlen
    exact (Option.some.inj hlen).symm
  obtain ⟨vm', X1, st1⟩ := X.invokevirtualNull hexec hown hlink hn hrm hstR hkP hkPi hx (g := F0 m pc ls st0) rfl (argsL := As) (rest := rest) hl9 hst (by rw [hb]; exact hdg)
  obtain ⟨t, st, q⟩ := k (T.setVm vm') hT X1
  exact ⟨t, st1 t st, q⟩
theorem vx_newarrayZ {atype : ArrayType} (hexec : p.tables.exec = Jvm.exec) (hb : c.code = cc) {n : Int32} (h0 : n < 0) (hdg : decode cc pc = .ok (.newarray atype, 2)) (k : ∀ tx : String, tx = toString n → vx_Note p l e R s m args below meth c H locs cells slots Q (F0 m pc ls rest) "java/lang/NegativeArraySizeException" tx) : W p l e R s m args below meth c H locs cells slots Q (F0 m pc ls (.int n :: rest)) := by
  intro T hT X
  obtain ⟨t, st, q⟩ := k _ rfl T hT X
  exact ⟨t, X.newarrayNegative hexec (g := F0 m pc ls (.int n :: rest)) rfl h0 (rest := rest) rfl (by rw [hb]; exact hdg) t st, q⟩
end
end VXM
/-! ===== END ===== -/
end
section
def RX0 : String := "DockyardSlots$Appointment"
def TX0 : u_T := fun k => match k with
  | 0 => ("DockyardSlots$Appointment", "number", "I", true)
  | 1 => ("DockyardSlots$Appointment", "hour", "I", true)
  | 2 => ("DockyardSlots$Appointment", "kind", "C", true)
  | 3 => ("DockyardSlots$Appointment", "work", "I", true)
  | 4 => ("DockyardSlots$Appointment", "state", "C", false)
  | 5 => ("DockyardSlots$Appointment", "arrivedAt", "I", false)
  | 6 => ("DockyardSlots$Appointment", "dockedAt", "I", false)
  | 7 => ("DockyardSlots$Appointment", "lane", "LDockyardSlots$Lane;", false)
  | 8 => ("DockyardSlots$Appointment", "place", "I", false)
  | _ => ("DockyardSlots$Appointment", "door", "LDockyardSlots$Door;", false)
def tyX0 : Nat → FieldType := fun k => match k with
  | 0 => .int
  | 1 => .int
  | 2 => .char
  | 3 => .int
  | 4 => .char
  | 5 => .int
  | 6 => .int
  | 7 => .object "DockyardSlots$Lane"
  | 8 => .int
  | _ => .object "DockyardSlots$Door"
abbrev wsX00 : List Cond := u_ws RX0 TX0 10
theorem nmX0 : ∀ a, a < 10 → ∀ b, b < 10 → a ≠ b → (TX0 a).2.1 ≠ (TX0 b).2.1 := by decide +kernel
theorem tyX0_ok : ∀ k, k < 10 → parseFieldDescriptor (TX0 k).2.2.1 = some (tyX0 k) := by decide +kernel
abbrev cX0_init : ByteArray := prog_2_method_1_code
def yX0_init : MethodName := ⟨RX0, "<init>", "(IICI)V"⟩
abbrev cX0_hasArrived : ByteArray := prog_2_method_2_code
def yX0_hasArrived : MethodName := ⟨RX0, "hasArrived", "()Z"⟩
abbrev cX0_doneAt : ByteArray := prog_2_method_3_code
def yX0_doneAt : MethodName := ⟨RX0, "doneAt", "()I"⟩
def RX1 : String := "DockyardSlots$Door"
def TX1 : u_T := fun k => match k with
  | 0 => ("DockyardSlots$Door", "kind", "C", true)
  | _ => ("DockyardSlots$Door", "isUsed", "Z", false)
def tyX1 : Nat → FieldType := fun k => match k with
  | 0 => .char
  | _ => .boolean
abbrev wsX10 : List Cond := u_ws RX1 TX1 2
theorem nmX1 : ∀ a, a < 2 → ∀ b, b < 2 → a ≠ b → (TX1 a).2.1 ≠ (TX1 b).2.1 := by decide +kernel
theorem tyX1_ok : ∀ k, k < 2 → parseFieldDescriptor (TX1 k).2.2.1 = some (tyX1 k) := by decide +kernel
abbrev cX1_init : ByteArray := prog_3_method_1_code
def yX1_init : MethodName := ⟨RX1, "<init>", "(C)V"⟩
abbrev cX1_canTake : ByteArray := prog_3_method_2_code
def yX1_canTake : MethodName := ⟨RX1, "canTake", "(LDockyardSlots$Appointment;)Z"⟩
def RX2 : String := "DockyardSlots$Lane"
def TX2 : u_T := fun k => match k with
  | 0 => ("DockyardSlots$Lane", "number", "I", true)
  | 1 => ("DockyardSlots$Lane", "capacity", "I", true)
  | 2 => ("DockyardSlots$Lane", "hasPower", "Z", true)
  | 3 => ("DockyardSlots$Lane", "trailers", "[LDockyardSlots$Appointment;", true)
  | _ => ("DockyardSlots$Lane", "count", "I", false)
def tyX2 : Nat → FieldType := fun k => match k with
  | 0 => .int
  | 1 => .int
  | 2 => .boolean
  | 3 => .array (.object "DockyardSlots$Appointment")
  | _ => .int
abbrev wsX20 : List Cond := u_ws RX2 TX2 5
theorem nmX2 : ∀ a, a < 5 → ∀ b, b < 5 → a ≠ b → (TX2 a).2.1 ≠ (TX2 b).2.1 := by decide +kernel
theorem tyX2_ok : ∀ k, k < 5 → parseFieldDescriptor (TX2 k).2.2.1 = some (tyX2 k) := by decide +kernel
abbrev cX2_init : ByteArray := prog_4_method_1_code
def yX2_init : MethodName := ⟨RX2, "<init>", "(IIZ)V"⟩
abbrev cX2_canTake : ByteArray := prog_4_method_2_code
def yX2_canTake : MethodName := ⟨RX2, "canTake", "(LDockyardSlots$Appointment;)Z"⟩
abbrev cX2_bringIn : ByteArray := prog_4_method_3_code
def yX2_bringIn : MethodName := ⟨RX2, "bringIn", "(LDockyardSlots$Appointment;)V"⟩
abbrev cX2_takeOut : ByteArray := prog_4_method_4_code
def yX2_takeOut : MethodName := ⟨RX2, "takeOut", "()LDockyardSlots$Appointment;"⟩
abbrev cX2_fromExit : ByteArray := prog_4_method_5_code
def yX2_fromExit : MethodName := ⟨RX2, "fromExit", "(I)LDockyardSlots$Appointment;"⟩
abbrev cX2_countBefore : ByteArray := prog_4_method_6_code
def yX2_countBefore : MethodName := ⟨RX2, "countBefore", "(LDockyardSlots$Appointment;)I"⟩
def RX3 : String := "DockyardSlots$LaneRow"
def TX3 : u_T := fun k => match k with
  | 0 => ("DockyardSlots$LaneRow", "lanes", "[LDockyardSlots$Lane;", true)
  | _ => ("DockyardSlots$LaneRow", "count", "I", false)
def tyX3 : Nat → FieldType := fun k => match k with
  | 0 => .array (.object "DockyardSlots$Lane")
  | _ => .int
abbrev wsX30 : List Cond := u_ws RX3 TX3 2
theorem nmX3 : ∀ a, a < 2 → ∀ b, b < 2 → a ≠ b → (TX3 a).2.1 ≠ (TX3 b).2.1 := by decide +kernel
theorem tyX3_ok : ∀ k, k < 2 → parseFieldDescriptor (TX3 k).2.2.1 = some (tyX3 k) := by decide +kernel
abbrev cX3_init : ByteArray := prog_5_method_1_code
def yX3_init : MethodName := ⟨RX3, "<init>", "()V"⟩
abbrev cX3_append : ByteArray := prog_5_method_2_code
def yX3_append : MethodName := ⟨RX3, "append", "(IZ)I"⟩
abbrev cX3_laneAt : ByteArray := prog_5_method_3_code
def yX3_laneAt : MethodName := ⟨RX3, "laneAt", "(I)LDockyardSlots$Lane;"⟩
abbrev cX3_trailerCount : ByteArray := prog_5_method_4_code
def yX3_trailerCount : MethodName := ⟨RX3, "trailerCount", "()I"⟩
abbrev cX3_allowMove : ByteArray := prog_5_method_5_code
def yX3_allowMove : MethodName := ⟨RX3, "allowMove", "(II)Z"⟩
abbrev cX3_moveNearest : ByteArray := prog_5_method_6_code
def yX3_moveNearest : MethodName := ⟨RX3, "moveNearest", "(II)V"⟩
def RX4 : String := "DockyardSlots"
def TX4 : u_T := fun k => match k with
  | 0 => ("DockyardSlots", "lanes", "LDockyardSlots$LaneRow;", true)
  | 1 => ("DockyardSlots", "doors", "[LDockyardSlots$Door;", true)
  | 2 => ("DockyardSlots", "doorCount", "I", false)
  | 3 => ("DockyardSlots", "appointments", "[LDockyardSlots$Appointment;", true)
  | 4 => ("DockyardSlots", "appointmentCount", "I", false)
  | 5 => ("DockyardSlots", "tolerance", "I", false)
  | 6 => ("DockyardSlots", "freeHours", "I", false)
  | 7 => ("DockyardSlots", "firstRate", "I", false)
  | 8 => ("DockyardSlots", "firstHours", "I", false)
  | 9 => ("DockyardSlots", "secondRate", "I", false)
  | 10 => ("DockyardSlots", "now", "I", false)
  | 11 => ("DockyardSlots", "moveCount", "I", false)
  | _ => ("DockyardSlots", "chargedSum", "J", false)
def tyX4 : Nat → FieldType := fun k => match k with
  | 0 => .object "DockyardSlots$LaneRow"
  | 1 => .array (.object "DockyardSlots$Door")
  | 2 => .int
  | 3 => .array (.object "DockyardSlots$Appointment")
  | 4 => .int
  | 5 => .int
  | 6 => .int
  | 7 => .int
  | 8 => .int
  | 9 => .int
  | 10 => .int
  | 11 => .int
  | _ => .long
abbrev wsX40 : List Cond := u_ws RX4 TX4 13
theorem nmX4 : ∀ a, a < 13 → ∀ b, b < 13 → a ≠ b → (TX4 a).2.1 ≠ (TX4 b).2.1 := by decide +kernel
theorem tyX4_ok : ∀ k, k < 13 → parseFieldDescriptor (TX4 k).2.2.1 = some (tyX4 k) := by decide +kernel
abbrev cX4_init : ByteArray := prog_1_method_1_code
def yX4_init : MethodName := ⟨RX4, "<init>", "()V"⟩
abbrev cX4_addLane : ByteArray := prog_1_method_2_code
def yX4_addLane : MethodName := ⟨RX4, "addLane", "(IZ)I"⟩
abbrev cX4_addDoor : ByteArray := prog_1_method_3_code
def yX4_addDoor : MethodName := ⟨RX4, "addDoor", "(C)I"⟩
abbrev cX4_setTolerance : ByteArray := prog_1_method_4_code
def yX4_setTolerance : MethodName := ⟨RX4, "setTolerance", "(I)I"⟩
abbrev cX4_setCharges : ByteArray := prog_1_method_5_code
def yX4_setCharges : MethodName := ⟨RX4, "setCharges", "(IIII)I"⟩
abbrev cX4_book : ByteArray := prog_1_method_6_code
def yX4_book : MethodName := ⟨RX4, "book", "(ICI)I"⟩
abbrev cX4_arrive : ByteArray := prog_1_method_7_code
def yX4_arrive : MethodName := ⟨RX4, "arrive", "(II)C"⟩
abbrev cX4_state : ByteArray := prog_1_method_8_code
def yX4_state : MethodName := ⟨RX4, "state", "(I)C"⟩
abbrev cX4_punctuality : ByteArray := prog_1_method_9_code
def yX4_punctuality : MethodName := ⟨RX4, "punctuality", "(I)C"⟩
abbrev cX4_nextBooked : ByteArray := prog_1_method_10_code
def yX4_nextBooked : MethodName := ⟨RX4, "nextBooked", "()I"⟩
abbrev cX4_shift : ByteArray := prog_1_method_11_code
def yX4_shift : MethodName := ⟨RX4, "shift", "(II)I"⟩
abbrev cX4_dock : ByteArray := prog_1_method_12_code
def yX4_dock : MethodName := ⟨RX4, "dock", "(II)I"⟩
abbrev cX4_leave : ByteArray := prog_1_method_13_code
def yX4_leave : MethodName := ⟨RX4, "leave", "(I)I"⟩
abbrev cX4_laneOf : ByteArray := prog_1_method_14_code
def yX4_laneOf : MethodName := ⟨RX4, "laneOf", "(I)I"⟩
abbrev cX4_blockers : ByteArray := prog_1_method_15_code
def yX4_blockers : MethodName := ⟨RX4, "blockers", "(I)I"⟩
abbrev cX4_trailerAt : ByteArray := prog_1_method_16_code
def yX4_trailerAt : MethodName := ⟨RX4, "trailerAt", "(II)I"⟩
abbrev cX4_freeDoor : ByteArray := prog_1_method_17_code
def yX4_freeDoor : MethodName := ⟨RX4, "freeDoor", "(I)I"⟩
abbrev cX4_fewestMoves : ByteArray := prog_1_method_18_code
def yX4_fewestMoves : MethodName := ⟨RX4, "fewestMoves", "(I)I"⟩
abbrev cX4_fewestByOrders : ByteArray := prog_1_method_19_code
def yX4_fewestByOrders : MethodName := ⟨RX4, "fewestByOrders", "(I)I"⟩
abbrev cX4_pass : ByteArray := prog_1_method_20_code
def yX4_pass : MethodName := ⟨RX4, "pass", "(I)I"⟩
abbrev cX4_time : ByteArray := prog_1_method_21_code
def yX4_time : MethodName := ⟨RX4, "time", "()I"⟩
abbrev cX4_waited : ByteArray := prog_1_method_22_code
def yX4_waited : MethodName := ⟨RX4, "waited", "(I)I"⟩
abbrev cX4_charge : ByteArray := prog_1_method_23_code
def yX4_charge : MethodName := ⟨RX4, "charge", "(I)I"⟩
abbrev cX4_chargeByHours : ByteArray := prog_1_method_24_code
def yX4_chargeByHours : MethodName := ⟨RX4, "chargeByHours", "(I)I"⟩
abbrev cX4_moves : ByteArray := prog_1_method_25_code
def yX4_moves : MethodName := ⟨RX4, "moves", "()I"⟩
abbrev cX4_charged : ByteArray := prog_1_method_26_code
def yX4_charged : MethodName := ⟨RX4, "charged", "()J"⟩
abbrev cX4_usedShare : ByteArray := prog_1_method_27_code
def yX4_usedShare : MethodName := ⟨RX4, "usedShare", "()F"⟩
abbrev cX4_meanWaiting : ByteArray := prog_1_method_28_code
def yX4_meanWaiting : MethodName := ⟨RX4, "meanWaiting", "()D"⟩
abbrev cX4_isOutside : ByteArray := prog_1_method_29_code
def yX4_isOutside : MethodName := ⟨RX4, "isOutside", "(III)Z"⟩
abbrev cX4_appointmentOrThrow : ByteArray := prog_1_method_30_code
def yX4_appointmentOrThrow : MethodName := ⟨RX4, "appointmentOrThrow", "(I)LDockyardSlots$Appointment;"⟩
abbrev cX4_arrivedOrThrow : ByteArray := prog_1_method_31_code
def yX4_arrivedOrThrow : MethodName := ⟨RX4, "arrivedOrThrow", "(I)LDockyardSlots$Appointment;"⟩
abbrev cX4_laneOrThrow : ByteArray := prog_1_method_32_code
def yX4_laneOrThrow : MethodName := ⟨RX4, "laneOrThrow", "(I)LDockyardSlots$Lane;"⟩
abbrev cX4_homeOrThrow : ByteArray := prog_1_method_33_code
def yX4_homeOrThrow : MethodName := ⟨RX4, "homeOrThrow", "(LDockyardSlots$Appointment;)LDockyardSlots$Lane;"⟩
abbrev cX4_homeOfReachedOrThrow : ByteArray := prog_1_method_34_code
def yX4_homeOfReachedOrThrow : MethodName := ⟨RX4, "homeOfReachedOrThrow", "(LDockyardSlots$Appointment;)LDockyardSlots$Lane;"⟩
abbrev cX4_doorAt : ByteArray := prog_1_method_35_code
def yX4_doorAt : MethodName := ⟨RX4, "doorAt", "(I)LDockyardSlots$Door;"⟩
abbrev cX4_isReachedWithin : ByteArray := prog_1_method_36_code
def yX4_isReachedWithin : MethodName := ⟨RX4, "isReachedWithin", "(LDockyardSlots$LaneRow;LDockyardSlots$Lane;LDockyardSlots$Appointment;I)Z"⟩
abbrev cX4_bestOfOrders : ByteArray := prog_1_method_37_code
def yX4_bestOfOrders : MethodName := ⟨RX4, "bestOfOrders", "(LDockyardSlots$LaneRow;LDockyardSlots$Lane;LDockyardSlots$Appointment;II)I"⟩
abbrev cX4_punctualityOf : ByteArray := prog_1_method_38_code
def yX4_punctualityOf : MethodName := ⟨RX4, "punctualityOf", "(LDockyardSlots$Appointment;)C"⟩
abbrev cX4_waitingHours : ByteArray := prog_1_method_39_code
def yX4_waitingHours : MethodName := ⟨RX4, "waitingHours", "(LDockyardSlots$Appointment;)I"⟩
abbrev cX4_chargeInSteps : ByteArray := prog_1_method_40_code
def yX4_chargeInSteps : MethodName := ⟨RX4, "chargeInSteps", "(LDockyardSlots$Appointment;)I"⟩
abbrev cX4_rateOfHour : ByteArray := prog_1_method_41_code
def yX4_rateOfHour : MethodName := ⟨RX4, "rateOfHour", "(I)I"⟩
def RX5 : String := "DockyardSlotsModel"
def TX5 : u_T := fun k => match k with
  | 0 => ("DockyardSlotsModel", "lanes", "I", false)
  | 1 => ("DockyardSlotsModel", "capacities", "[I", true)
  | 2 => ("DockyardSlotsModel", "havePower", "[Z", true)
  | 3 => ("DockyardSlotsModel", "counts", "[I", true)
  | 4 => ("DockyardSlotsModel", "slots", "[I", true)
  | 5 => ("DockyardSlotsModel", "doors", "I", false)
  | 6 => ("DockyardSlotsModel", "doorKinds", "[C", true)
  | 7 => ("DockyardSlotsModel", "atDoors", "[I", true)
  | 8 => ("DockyardSlotsModel", "booked", "I", false)
  | 9 => ("DockyardSlotsModel", "hours", "[I", true)
  | 10 => ("DockyardSlotsModel", "kinds", "[C", true)
  | 11 => ("DockyardSlotsModel", "works", "[I", true)
  | 12 => ("DockyardSlotsModel", "states", "[C", true)
  | 13 => ("DockyardSlotsModel", "arrivals", "[I", true)
  | 14 => ("DockyardSlotsModel", "docked", "[I", true)
  | 15 => ("DockyardSlotsModel", "places", "[I", true)
  | 16 => ("DockyardSlotsModel", "tolerance", "I", false)
  | 17 => ("DockyardSlotsModel", "free", "I", false)
  | 18 => ("DockyardSlotsModel", "rate", "I", false)
  | 19 => ("DockyardSlotsModel", "paidHours", "I", false)
  | 20 => ("DockyardSlotsModel", "laterRate", "I", false)
  | 21 => ("DockyardSlotsModel", "time", "I", false)
  | 22 => ("DockyardSlotsModel", "moves", "I", false)
  | 23 => ("DockyardSlotsModel", "charged", "J", false)
  | _ => ("DockyardSlotsModel", "code", "I", false)
def tyX5 : Nat → FieldType := fun k => match k with
  | 0 => .int
  | 1 => .array .int
  | 2 => .array .boolean
  | 3 => .array .int
  | 4 => .array .int
  | 5 => .int
  | 6 => .array .char
  | 7 => .array .int
  | 8 => .int
  | 9 => .array .int
  | 10 => .array .char
  | 11 => .array .int
  | 12 => .array .char
  | 13 => .array .int
  | 14 => .array .int
  | 15 => .array .int
  | 16 => .int
  | 17 => .int
  | 18 => .int
  | 19 => .int
  | 20 => .int
  | 21 => .int
  | 22 => .int
  | 23 => .long
  | _ => .int
abbrev wsX50 : List Cond := u_ws RX5 TX5 25
theorem nmX5 : ∀ a, a < 25 → ∀ b, b < 25 → a ≠ b → (TX5 a).2.1 ≠ (TX5 b).2.1 := by decide +kernel
theorem tyX5_ok : ∀ k, k < 25 → parseFieldDescriptor (TX5 k).2.2.1 = some (tyX5 k) := by decide +kernel
abbrev cX5_init : ByteArray := prog_7_method_1_code
def yX5_init : MethodName := ⟨RX5, "<init>", "()V"⟩
abbrev cX5_thrown : ByteArray := prog_7_method_2_code
def yX5_thrown : MethodName := ⟨RX5, "thrown", "()I"⟩
abbrev cX5_fails : ByteArray := prog_7_method_3_code
def yX5_fails : MethodName := ⟨RX5, "fails", "(I)Z"⟩
abbrev cX5_tells : ByteArray := prog_7_method_4_code
def yX5_tells : MethodName := ⟨RX5, "tells", "(I)I"⟩
abbrev cX5_in : ByteArray := prog_7_method_5_code
def yX5_in : MethodName := ⟨RX5, "in", "(III)Z"⟩
abbrev cX5_isNoLane : ByteArray := prog_7_method_6_code
def yX5_isNoLane : MethodName := ⟨RX5, "isNoLane", "(I)Z"⟩
abbrev cX5_isNone : ByteArray := prog_7_method_7_code
def yX5_isNone : MethodName := ⟨RX5, "isNone", "(I)Z"⟩
abbrev cX5_addLane : ByteArray := prog_7_method_8_code
def yX5_addLane : MethodName := ⟨RX5, "addLane", "(IZ)I"⟩
abbrev cX5_addDoor : ByteArray := prog_7_method_9_code
def yX5_addDoor : MethodName := ⟨RX5, "addDoor", "(C)I"⟩
abbrev cX5_setTolerance : ByteArray := prog_7_method_10_code
def yX5_setTolerance : MethodName := ⟨RX5, "setTolerance", "(I)I"⟩
abbrev cX5_setCharges : ByteArray := prog_7_method_11_code
def yX5_setCharges : MethodName := ⟨RX5, "setCharges", "(IIII)I"⟩
abbrev cX5_book : ByteArray := prog_7_method_12_code
def yX5_book : MethodName := ⟨RX5, "book", "(ICI)I"⟩
abbrev cX5_canCome : ByteArray := prog_7_method_13_code
def yX5_canCome : MethodName := ⟨RX5, "canCome", "(II)Z"⟩
abbrev cX5_comes : ByteArray := prog_7_method_14_code
def yX5_comes : MethodName := ⟨RX5, "comes", "(II)V"⟩
abbrev cX5_inLanes : ByteArray := prog_7_method_15_code
def yX5_inLanes : MethodName := ⟨RX5, "inLanes", "()I"⟩
abbrev cX5_punctual : ByteArray := prog_7_method_16_code
def yX5_punctual : MethodName := ⟨RX5, "punctual", "(I)C"⟩
abbrev cX5_arrive : ByteArray := prog_7_method_17_code
def yX5_arrive : MethodName := ⟨RX5, "arrive", "(II)C"⟩
abbrev cX5_state : ByteArray := prog_7_method_18_code
def yX5_state : MethodName := ⟨RX5, "state", "(I)C"⟩
abbrev cX5_hasNotCome : ByteArray := prog_7_method_19_code
def yX5_hasNotCome : MethodName := ⟨RX5, "hasNotCome", "(I)Z"⟩
abbrev cX5_punctuality : ByteArray := prog_7_method_20_code
def yX5_punctuality : MethodName := ⟨RX5, "punctuality", "(I)C"⟩
abbrev cX5_nextBooked : ByteArray := prog_7_method_21_code
def yX5_nextBooked : MethodName := ⟨RX5, "nextBooked", "()I"⟩
abbrev cX5_slotOf : ByteArray := prog_7_method_22_code
def yX5_slotOf : MethodName := ⟨RX5, "slotOf", "(I)I"⟩
abbrev cX5_ahead : ByteArray := prog_7_method_23_code
def yX5_ahead : MethodName := ⟨RX5, "ahead", "(I)I"⟩
abbrev cX5_isReached : ByteArray := prog_7_method_24_code
def yX5_isReached : MethodName := ⟨RX5, "isReached", "(I)Z"⟩
abbrev cX5_shift : ByteArray := prog_7_method_25_code
def yX5_shift : MethodName := ⟨RX5, "shift", "(II)I"⟩
abbrev cX5_canServe : ByteArray := prog_7_method_26_code
def yX5_canServe : MethodName := ⟨RX5, "canServe", "(II)Z"⟩
abbrev cX5_dock : ByteArray := prog_7_method_27_code
def yX5_dock : MethodName := ⟨RX5, "dock", "(II)I"⟩
abbrev cX5_waits : ByteArray := prog_7_method_28_code
def yX5_waits : MethodName := ⟨RX5, "waits", "(I)I"⟩
abbrev cX5_costs : ByteArray := prog_7_method_29_code
def yX5_costs : MethodName := ⟨RX5, "costs", "(I)I"⟩
abbrev cX5_leave : ByteArray := prog_7_method_30_code
def yX5_leave : MethodName := ⟨RX5, "leave", "(I)I"⟩
abbrev cX5_isElsewhere : ByteArray := prog_7_method_31_code
def yX5_isElsewhere : MethodName := ⟨RX5, "isElsewhere", "(I)Z"⟩
abbrev cX5_laneOf : ByteArray := prog_7_method_32_code
def yX5_laneOf : MethodName := ⟨RX5, "laneOf", "(I)I"⟩
abbrev cX5_blockers : ByteArray := prog_7_method_33_code
def yX5_blockers : MethodName := ⟨RX5, "blockers", "(I)I"⟩
abbrev cX5_trailerAt : ByteArray := prog_7_method_34_code
def yX5_trailerAt : MethodName := ⟨RX5, "trailerAt", "(II)I"⟩
abbrev cX5_freeDoor : ByteArray := prog_7_method_35_code
def yX5_freeDoor : MethodName := ⟨RX5, "freeDoor", "(I)I"⟩
abbrev cX5_isReachedWith : ByteArray := prog_7_method_36_code
def yX5_isReachedWith : MethodName := ⟨RX5, "isReachedWith", "(II)Z"⟩
abbrev cX5_isReachedBehind : ByteArray := prog_7_method_37_code
def yX5_isReachedBehind : MethodName := ⟨RX5, "isReachedBehind", "(IIII)Z"⟩
abbrev cX5_fewest : ByteArray := prog_7_method_38_code
def yX5_fewest : MethodName := ⟨RX5, "fewest", "(I)I"⟩
abbrev cX5_fewestMoves : ByteArray := prog_7_method_39_code
def yX5_fewestMoves : MethodName := ⟨RX5, "fewestMoves", "(I)I"⟩
abbrev cX5_fewestByOrders : ByteArray := prog_7_method_40_code
def yX5_fewestByOrders : MethodName := ⟨RX5, "fewestByOrders", "(I)I"⟩
abbrev cX5_pass : ByteArray := prog_7_method_41_code
def yX5_pass : MethodName := ⟨RX5, "pass", "(I)I"⟩
abbrev cX5_time : ByteArray := prog_7_method_42_code
def yX5_time : MethodName := ⟨RX5, "time", "()I"⟩
abbrev cX5_waited : ByteArray := prog_7_method_43_code
def yX5_waited : MethodName := ⟨RX5, "waited", "(I)I"⟩
abbrev cX5_charge : ByteArray := prog_7_method_44_code
def yX5_charge : MethodName := ⟨RX5, "charge", "(I)I"⟩
abbrev cX5_chargeByHours : ByteArray := prog_7_method_45_code
def yX5_chargeByHours : MethodName := ⟨RX5, "chargeByHours", "(I)I"⟩
abbrev cX5_moves : ByteArray := prog_7_method_46_code
def yX5_moves : MethodName := ⟨RX5, "moves", "()I"⟩
abbrev cX5_charged : ByteArray := prog_7_method_47_code
def yX5_charged : MethodName := ⟨RX5, "charged", "()J"⟩
abbrev cX5_usedShare : ByteArray := prog_7_method_48_code
def yX5_usedShare : MethodName := ⟨RX5, "usedShare", "()F"⟩
abbrev cX5_meanWaiting : ByteArray := prog_7_method_49_code
def yX5_meanWaiting : MethodName := ⟨RX5, "meanWaiting", "()D"⟩
def RJx145de : String := "java/io/Serializable"
def TJx145de : u_T := fun k => match k with
  | _ => ("", "", "", false)
def tyJx145de : Nat → FieldType := fun k => match k with
  | _ => .int
abbrev wsJx145de0 : List Cond := u_ws RJx145de TJx145de 0
theorem nmJx145de : ∀ a, a < 0 → ∀ b, b < 0 → a ≠ b → (TJx145de a).2.1 ≠ (TJx145de b).2.1 := by decide +kernel
theorem tyJx145de_ok : ∀ k, k < 0 → parseFieldDescriptor (TJx145de k).2.2.1 = some (tyJx145de k) := by decide +kernel
def RJx00060 : String := "java/lang/ArrayIndexOutOfBoundsException"
def TJx00060 : u_T := fun k => match k with
  | 0 => ("java/lang/Throwable", "backtrace", "Ljava/lang/Object;", false)
  | 1 => ("java/lang/Throwable", "detailMessage", "Ljava/lang/String;", false)
  | 2 => ("java/lang/Throwable", "cause", "Ljava/lang/Throwable;", false)
  | 3 => ("java/lang/Throwable", "stackTrace", "[Ljava/lang/StackTraceElement;", false)
  | 4 => ("java/lang/Throwable", "depth", "I", false)
  | _ => ("java/lang/Throwable", "suppressedExceptions", "Ljava/util/List;", false)
def tyJx00060 : Nat → FieldType := fun k => match k with
  | 0 => .object "java/lang/Object"
  | 1 => .object "java/lang/String"
  | 2 => .object "java/lang/Throwable"
  | 3 => .array (.object "java/lang/StackTraceElement")
  | 4 => .int
  | _ => .object "java/util/List"
abbrev wsJx000600 : List Cond := u_ws RJx00060 TJx00060 6
theorem nmJx00060 : ∀ a, a < 6 → ∀ b, b < 6 → a ≠ b → (TJx00060 a).2.1 ≠ (TJx00060 b).2.1 := by decide +kernel
theorem tyJx00060_ok : ∀ k, k < 6 → parseFieldDescriptor (TJx00060 k).2.2.1 = some (tyJx00060 k) := by decide +kernel
abbrev cJx00060_init_a7421 : ByteArray := prog_10_method_2_code
def yJx00060_init_a7421 : MethodName := ⟨RJx00060, "<init>", "(Ljava/lang/String;)V"⟩
def RJ9 : String := "java/lang/Math"
def TJ9 : u_T := fun k => match k with
  | _ => ("", "", "", false)
def tyJ9 : Nat → FieldType := fun k => match k with
  | _ => .int
abbrev wsJ90 : List Cond := u_ws RJ9 TJ9 0
theorem nmJ9 : ∀ a, a < 0 → ∀ b, b < 0 → a ≠ b → (TJ9 a).2.1 ≠ (TJ9 b).2.1 := by decide +kernel
theorem tyJ9_ok : ∀ k, k < 0 → parseFieldDescriptor (TJ9 k).2.2.1 = some (tyJ9 k) := by decide +kernel
abbrev cJ9_max_7cf53 : ByteArray := prog_15_method_65_code
def yJ9_max_7cf53 : MethodName := ⟨RJ9, "max", "(II)I"⟩
abbrev cJ9_min_7cf53 : ByteArray := prog_15_method_69_code
def yJ9_min_7cf53 : MethodName := ⟨RJ9, "min", "(II)I"⟩
def RJ0 : String := "java/lang/String"
def TJ0 : u_T := fun k => match k with
  | 0 => ("java/lang/String", "value", "[B", true)
  | _ => ("java/lang/String", "coder", "B", true)
def tyJ0 : Nat → FieldType := fun k => match k with
  | 0 => .array .byte
  | _ => .byte
abbrev wsJ00 : List Cond := u_ws RJ0 TJ0 2
theorem nmJ0 : ∀ a, a < 2 → ∀ b, b < 2 → a ≠ b → (TJ0 a).2.1 ≠ (TJ0 b).2.1 := by decide +kernel
theorem tyJ0_ok : ∀ k, k < 2 → parseFieldDescriptor (TJ0 k).2.2.1 = some (tyJ0 k) := by decide +kernel
def RL : String := "DockyardSlotsLaw"
abbrev cL_addLane : ByteArray := method_3_code
def yL_addLane : MethodName := ⟨RL, "addLane", "(LDockyardSlots;IZ[J)I"⟩
abbrev cL_addDoor : ByteArray := method_4_code
def yL_addDoor : MethodName := ⟨RL, "addDoor", "(LDockyardSlots;C[J)I"⟩
abbrev cL_setTolerance : ByteArray := method_5_code
def yL_setTolerance : MethodName := ⟨RL, "setTolerance", "(LDockyardSlots;I[J)I"⟩
abbrev cL_setCharges : ByteArray := method_6_code
def yL_setCharges : MethodName := ⟨RL, "setCharges", "(LDockyardSlots;IIII[J)I"⟩
abbrev cL_book : ByteArray := method_7_code
def yL_book : MethodName := ⟨RL, "book", "(LDockyardSlots;ICI[J)I"⟩
abbrev cL_arrive : ByteArray := method_8_code
def yL_arrive : MethodName := ⟨RL, "arrive", "(LDockyardSlots;II[J)I"⟩
abbrev cL_state : ByteArray := method_9_code
def yL_state : MethodName := ⟨RL, "state", "(LDockyardSlots;I[J)I"⟩
abbrev cL_punctuality : ByteArray := method_10_code
def yL_punctuality : MethodName := ⟨RL, "punctuality", "(LDockyardSlots;I[J)I"⟩
abbrev cL_nextBooked : ByteArray := method_11_code
def yL_nextBooked : MethodName := ⟨RL, "nextBooked", "(LDockyardSlots;[J)I"⟩
abbrev cL_shift : ByteArray := method_12_code
def yL_shift : MethodName := ⟨RL, "shift", "(LDockyardSlots;II[J)I"⟩
abbrev cL_dock : ByteArray := method_13_code
def yL_dock : MethodName := ⟨RL, "dock", "(LDockyardSlots;II[J)I"⟩
abbrev cL_leave : ByteArray := method_14_code
def yL_leave : MethodName := ⟨RL, "leave", "(LDockyardSlots;I[J)I"⟩
abbrev cL_laneOf : ByteArray := method_15_code
def yL_laneOf : MethodName := ⟨RL, "laneOf", "(LDockyardSlots;I[J)I"⟩
abbrev cL_blockers : ByteArray := method_16_code
def yL_blockers : MethodName := ⟨RL, "blockers", "(LDockyardSlots;I[J)I"⟩
abbrev cL_trailerAt : ByteArray := method_17_code
def yL_trailerAt : MethodName := ⟨RL, "trailerAt", "(LDockyardSlots;II[J)I"⟩
abbrev cL_freeDoor : ByteArray := method_18_code
def yL_freeDoor : MethodName := ⟨RL, "freeDoor", "(LDockyardSlots;I[J)I"⟩
abbrev cL_fewestMoves : ByteArray := method_19_code
def yL_fewestMoves : MethodName := ⟨RL, "fewestMoves", "(LDockyardSlots;I[J)I"⟩
abbrev cL_fewestByOrders : ByteArray := method_20_code
def yL_fewestByOrders : MethodName := ⟨RL, "fewestByOrders", "(LDockyardSlots;I[J)I"⟩
abbrev cL_pass : ByteArray := method_21_code
def yL_pass : MethodName := ⟨RL, "pass", "(LDockyardSlots;I[J)I"⟩
abbrev cL_waited : ByteArray := method_22_code
def yL_waited : MethodName := ⟨RL, "waited", "(LDockyardSlots;I[J)I"⟩
abbrev cL_charge : ByteArray := method_23_code
def yL_charge : MethodName := ⟨RL, "charge", "(LDockyardSlots;I[J)I"⟩
abbrev cL_chargeByHours : ByteArray := method_24_code
def yL_chargeByHours : MethodName := ⟨RL, "chargeByHours", "(LDockyardSlots;I[J)I"⟩
abbrev cL_usedShare : ByteArray := method_25_code
def yL_usedShare : MethodName := ⟨RL, "usedShare", "(LDockyardSlots;[D)I"⟩
abbrev cL_meanWaiting : ByteArray := method_26_code
def yL_meanWaiting : MethodName := ⟨RL, "meanWaiting", "(LDockyardSlots;[D)I"⟩
abbrev cL_law : ByteArray := code
def yL_law : MethodName := ⟨RL, "law", "([I)Z"⟩
def wsX0_init : List Cond := .code yX0_init cX0_init 5 none :: ([.methodLink RX0 3 objectInit, .instanceMethod objectInit, .code objectInit ⟨#[0xb1]⟩ 1 none, .fieldLink RX0 9 "DockyardSlots$Appointment" "number" "I", .fieldLink RX0 15 "DockyardSlots$Appointment" "hour" "I", .fieldLink RX0 18 "DockyardSlots$Appointment" "kind" "C", .fieldLink RX0 22 "DockyardSlots$Appointment" "work" "I", .fieldLink RX0 25 "DockyardSlots$Appointment" "state" "C"] ++ wsX00)
def wsX0_hasArrived : List Cond := .code yX0_hasArrived cX0_hasArrived 1 (some .boolean) :: ([.fieldLink RX0 25 "DockyardSlots$Appointment" "state" "C"] ++ wsX00)
def wsX0_doneAt : List Cond := .code yX0_doneAt cX0_doneAt 1 (some .int) :: ([.fieldLink RX0 28 "DockyardSlots$Appointment" "dockedAt" "I", .fieldLink RX0 22 "DockyardSlots$Appointment" "work" "I"] ++ wsX00)
def wsX1_init : List Cond := .code yX1_init cX1_init 2 none :: ([.methodLink RX1 3 objectInit, .instanceMethod objectInit, .code objectInit ⟨#[0xb1]⟩ 1 none, .fieldLink RX1 9 "DockyardSlots$Door" "kind" "C"] ++ wsX10)
def wsX1_canTake : List Cond := .code yX1_canTake cX1_canTake 2 (some .boolean) :: ([.fieldLink RX1 15 "DockyardSlots$Door" "isUsed" "Z", .fieldLink RX1 9 "DockyardSlots$Door" "kind" "C", .fieldLink RX1 19 "DockyardSlots$Appointment" "kind" "C"] ++ wsX10 ++ wsX00)
def wsX2_init : List Cond := .code yX2_init cX2_init 4 none :: ([.methodLink RX2 3 objectInit, .instanceMethod objectInit, .code objectInit ⟨#[0xb1]⟩ 1 none, .fieldLink RX2 9 "DockyardSlots$Lane" "number" "I", .fieldLink RX2 15 "DockyardSlots$Lane" "capacity" "I", .fieldLink RX2 18 "DockyardSlots$Lane" "hasPower" "Z", .classLink RX2 22 RX0, .fieldLink RX2 24 "DockyardSlots$Lane" "trailers" "[LDockyardSlots$Appointment;"] ++ wsX20)
def wsX2_canTake : List Cond := .code yX2_canTake cX2_canTake 2 (some .boolean) :: ([.fieldLink RX2 28 "DockyardSlots$Lane" "count" "I", .fieldLink RX2 15 "DockyardSlots$Lane" "capacity" "I", .fieldLink RX2 18 "DockyardSlots$Lane" "hasPower" "Z", .fieldLink RX2 31 "DockyardSlots$Appointment" "kind" "C"] ++ wsX20 ++ wsX00)
def wsX2_bringIn : List Cond := .code yX2_bringIn cX2_bringIn 2 none :: ([.fieldLink RX2 28 "DockyardSlots$Lane" "count" "I", .fieldLink RX2 24 "DockyardSlots$Lane" "trailers" "[LDockyardSlots$Appointment;", .fieldLink RX2 35 "DockyardSlots$Appointment" "lane" "LDockyardSlots$Lane;", .fieldLink RX2 39 "DockyardSlots$Appointment" "place" "I"] ++ wsX20 ++ wsX00)
def wsX2_fromExit : List Cond := .code yX2_fromExit cX2_fromExit 2 (some (.object "DockyardSlots$Appointment")) :: ([.fieldLink RX2 28 "DockyardSlots$Lane" "count" "I", .fieldLink RX2 24 "DockyardSlots$Lane" "trailers" "[LDockyardSlots$Appointment;"] ++ wsX20)
def wsX2_takeOut : List Cond := .code yX2_takeOut cX2_takeOut 2 (some (.object "DockyardSlots$Appointment")) :: ([.fieldLink RX2 28 "DockyardSlots$Lane" "count" "I", .fieldLink RX2 35 "DockyardSlots$Appointment" "lane" "LDockyardSlots$Lane;", .methodLink RX2 42 yX2_fromExit, .instanceMethod yX2_fromExit, .selects RX2 yX2_fromExit yX2_fromExit, .initialized RX2, .code yX2_fromExit cX2_fromExit 2 (some (.object "DockyardSlots$Appointment")), .fieldLink RX2 24 "DockyardSlots$Lane" "trailers" "[LDockyardSlots$Appointment;"] ++ wsX20 ++ wsX00)
def wsX2_countBefore : List Cond := .code yX2_countBefore cX2_countBefore 2 (some .int) :: ([.fieldLink RX2 28 "DockyardSlots$Lane" "count" "I", .fieldLink RX2 39 "DockyardSlots$Appointment" "place" "I"] ++ wsX20 ++ wsX00)
def wsX3_init : List Cond := .code yX3_init cX3_init 1 none :: ([.methodLink RX3 3 objectInit, .instanceMethod objectInit, .code objectInit ⟨#[0xb1]⟩ 1 none, .classLink RX3 9 RX2, .fieldLink RX3 11 "DockyardSlots$LaneRow" "lanes" "[LDockyardSlots$Lane;"] ++ wsX30)
def wsX3_append : List Cond := .code yX3_append cX3_append 4 (some .int) :: ([.fieldLink RX3 17 "DockyardSlots$LaneRow" "count" "I", .fieldLink RX3 11 "DockyardSlots$LaneRow" "lanes" "[LDockyardSlots$Lane;", .classLink RX3 9 RX2, .instantiable RX2 5, .initialized RX2, .methodLink RX3 21 yX2_init, .instanceMethod yX2_init, .code yX2_init cX2_init 4 none, .methodLink RX2 3 objectInit, .instanceMethod objectInit, .code objectInit ⟨#[0xb1]⟩ 1 none, .fieldLink RX2 9 "DockyardSlots$Lane" "number" "I", .fieldLink RX2 15 "DockyardSlots$Lane" "capacity" "I", .fieldLink RX2 18 "DockyardSlots$Lane" "hasPower" "Z", .classLink RX2 22 RX0, .fieldLink RX2 24 "DockyardSlots$Lane" "trailers" "[LDockyardSlots$Appointment;"] ++ wsX30 ++ wsX20)
def wsX3_laneAt : List Cond := .code yX3_laneAt cX3_laneAt 2 (some (.object "DockyardSlots$Lane")) :: ([.fieldLink RX3 17 "DockyardSlots$LaneRow" "count" "I", .fieldLink RX3 11 "DockyardSlots$LaneRow" "lanes" "[LDockyardSlots$Lane;"] ++ wsX30)
def wsX3_trailerCount : List Cond := .code yX3_trailerCount cX3_trailerCount 4 (some .int) :: ([.fieldLink RX3 17 "DockyardSlots$LaneRow" "count" "I", .fieldLink RX3 28 "DockyardSlots$Lane" "count" "I", .methodLink RX3 24 yX3_laneAt, .instanceMethod yX3_laneAt, .selects RX3 yX3_laneAt yX3_laneAt, .initialized RX3, .code yX3_laneAt cX3_laneAt 2 (some (.object "DockyardSlots$Lane")), .fieldLink RX3 11 "DockyardSlots$LaneRow" "lanes" "[LDockyardSlots$Lane;"] ++ wsX30 ++ wsX20)
def wsX3_allowMove : List Cond := .code yX3_allowMove cX3_allowMove 6 (some .boolean) :: ([.methodLink RX3 24 yX3_laneAt, .instanceMethod yX3_laneAt, .selects RX3 yX3_laneAt yX3_laneAt, .initialized RX3, .code yX3_laneAt cX3_laneAt 2 (some (.object "DockyardSlots$Lane")), .fieldLink RX3 17 "DockyardSlots$LaneRow" "count" "I", .fieldLink RX3 11 "DockyardSlots$LaneRow" "lanes" "[LDockyardSlots$Lane;", .methodLink RX3 29 yX2_fromExit, .instanceMethod yX2_fromExit, .selects RX2 yX2_fromExit yX2_fromExit, .initialized RX2, .code yX2_fromExit cX2_fromExit 2 (some (.object "DockyardSlots$Appointment")), .fieldLink RX2 28 "DockyardSlots$Lane" "count" "I", .fieldLink RX2 24 "DockyardSlots$Lane" "trailers" "[LDockyardSlots$Appointment;", .methodLink RX3 33 yX2_canTake, .instanceMethod yX2_canTake, .selects RX2 yX2_canTake yX2_canTake, .code yX2_canTake cX2_canTake 2 (some .boolean), .fieldLink RX2 15 "DockyardSlots$Lane" "capacity" "I", .fieldLink RX2 18 "DockyardSlots$Lane" "hasPower" "Z", .fieldLink RX2 31 "DockyardSlots$Appointment" "kind" "C"] ++ wsX30 ++ wsX20 ++ wsX00)
def wsX3_moveNearest : List Cond := .code yX3_moveNearest cX3_moveNearest 6 none :: ([.methodLink RX3 24 yX3_laneAt, .instanceMethod yX3_laneAt, .selects RX3 yX3_laneAt yX3_laneAt, .initialized RX3, .code yX3_laneAt cX3_laneAt 2 (some (.object "DockyardSlots$Lane")), .fieldLink RX3 17 "DockyardSlots$LaneRow" "count" "I", .fieldLink RX3 11 "DockyardSlots$LaneRow" "lanes" "[LDockyardSlots$Lane;", .methodLink RX3 37 yX2_takeOut, .instanceMethod yX2_takeOut, .selects RX2 yX2_takeOut yX2_takeOut, .initialized RX2, .code yX2_takeOut cX2_takeOut 2 (some (.object "DockyardSlots$Appointment")), .fieldLink RX2 28 "DockyardSlots$Lane" "count" "I", .fieldLink RX2 35 "DockyardSlots$Appointment" "lane" "LDockyardSlots$Lane;", .methodLink RX2 42 yX2_fromExit, .instanceMethod yX2_fromExit, .selects RX2 yX2_fromExit yX2_fromExit, .code yX2_fromExit cX2_fromExit 2 (some (.object "DockyardSlots$Appointment")), .fieldLink RX2 24 "DockyardSlots$Lane" "trailers" "[LDockyardSlots$Appointment;", .methodLink RX3 41 yX2_bringIn, .instanceMethod yX2_bringIn, .selects RX2 yX2_bringIn yX2_bringIn, .code yX2_bringIn cX2_bringIn 2 none, .fieldLink RX2 39 "DockyardSlots$Appointment" "place" "I"] ++ wsX30 ++ wsX20 ++ wsX00)
def wsX4_init : List Cond := .code yX4_init cX4_init 1 none :: ([.methodLink RX4 1 objectInit, .instanceMethod objectInit, .code objectInit ⟨#[0xb1]⟩ 1 none, .classLink RX4 7 RX3, .instantiable RX3 2, .initialized RX3, .fieldLink RX4 10 "DockyardSlots" "lanes" "LDockyardSlots$LaneRow;", .classLink RX4 16 RX1, .fieldLink RX4 18 "DockyardSlots" "doors" "[LDockyardSlots$Door;", .classLink RX4 22 RX0, .fieldLink RX4 24 "DockyardSlots" "appointments" "[LDockyardSlots$Appointment;", .fieldLink RX4 28 "DockyardSlots" "tolerance" "I", .fieldLink RX4 32 "DockyardSlots" "freeHours" "I", .fieldLink RX4 35 "DockyardSlots" "firstRate" "I", .fieldLink RX4 38 "DockyardSlots" "firstHours" "I", .fieldLink RX4 41 "DockyardSlots" "secondRate" "I", .methodLink RX4 9 yX3_init, .instanceMethod yX3_init, .code yX3_init cX3_init 1 none, .methodLink RX3 3 objectInit, .classLink RX3 9 RX2, .fieldLink RX3 11 "DockyardSlots$LaneRow" "lanes" "[LDockyardSlots$Lane;"] ++ wsX30 ++ wsX40)
def wsX4_isOutside : List Cond := .code yX4_isOutside cX4_isOutside 3 (some .boolean) :: ([])
def wsX4_addLane_r1 : List Cond := [Cond.classLink RX4 48 "java/lang/IllegalArgumentException", Cond.initialized "java/lang/IllegalArgumentException", Cond.classLink RX4 58 "java/lang/IllegalStateException", Cond.initialized "java/lang/IllegalStateException", Cond.fieldLink RX4 10 "DockyardSlots" "lanes" "LDockyardSlots$LaneRow;", Cond.fieldLink RX4 55 "DockyardSlots$LaneRow" "count" "I", Cond.methodLink RX4 44 yX4_isOutside, Cond.static yX4_isOutside, Cond.initialized RX4, Cond.code yX4_isOutside cX4_isOutside 3 (some .boolean), Cond.methodLink RX4 63 yX3_append, Cond.instanceMethod yX3_append, Cond.selects RX3 yX3_append yX3_append, Cond.initialized RX3, Cond.code yX3_append cX3_append 4 (some .int), Cond.fieldLink RX3 17 "DockyardSlots$LaneRow" "count" "I", Cond.fieldLink RX3 11 "DockyardSlots$LaneRow" "lanes" "[LDockyardSlots$Lane;", Cond.classLink RX3 9 RX2, Cond.instantiable RX2 5, Cond.initialized RX2, Cond.methodLink RX3 21 yX2_init, Cond.instanceMethod yX2_init, Cond.code yX2_init cX2_init 4 none, Cond.methodLink RX2 3 objectInit]
def wsX4_addLane_r2 : List Cond := [Cond.instanceMethod objectInit, Cond.code objectInit ⟨#[0xb1]⟩ 1 none, Cond.fieldLink RX2 9 "DockyardSlots$Lane" "number" "I", Cond.fieldLink RX2 15 "DockyardSlots$Lane" "capacity" "I", Cond.fieldLink RX2 18 "DockyardSlots$Lane" "hasPower" "Z", Cond.classLink RX2 22 RX0, Cond.fieldLink RX2 24 "DockyardSlots$Lane" "trailers" "[LDockyardSlots$Appointment;"]
def wsX4_addLane : List Cond := .code yX4_addLane cX4_addLane 3 (some .int) :: ((wsX4_addLane_r1 ++ wsX4_addLane_r2) ++ wsX40 ++ wsX30 ++ wsX20 ++ (vx_atS RX4 52 "java/lang/IllegalArgumentException" ["java/lang/RuntimeException", "java/lang/Exception"]).filter goodWord ++ (vx_atS RX4 62 "java/lang/IllegalStateException" ["java/lang/RuntimeException", "java/lang/Exception"]).filter goodWord)
def wsX4_addDoor : List Cond := .code yX4_addDoor cX4_addDoor 3 (some .int) :: ([.classLink RX4 48 "java/lang/IllegalArgumentException", .initialized "java/lang/IllegalArgumentException", .classLink RX4 58 "java/lang/IllegalStateException", .initialized "java/lang/IllegalStateException", .fieldLink RX4 69 "DockyardSlots" "doorCount" "I", .fieldLink RX4 18 "DockyardSlots" "doors" "[LDockyardSlots$Door;", .classLink RX4 16 RX1, .instantiable RX1 2, .initialized RX1, .methodLink RX4 74 yX1_init, .instanceMethod yX1_init, .code yX1_init cX1_init 2 none, .methodLink RX1 3 objectInit, .instanceMethod objectInit, .code objectInit ⟨#[0xb1]⟩ 1 none, .fieldLink RX1 9 "DockyardSlots$Door" "kind" "C"] ++ wsX40 ++ wsX10 ++ (vx_atS RX4 52 "java/lang/IllegalArgumentException" ["java/lang/RuntimeException", "java/lang/Exception"]).filter goodWord ++ (vx_atS RX4 62 "java/lang/IllegalStateException" ["java/lang/RuntimeException", "java/lang/Exception"]).filter goodWord)
def wsX4_setTolerance : List Cond := .code yX4_setTolerance cX4_setTolerance 3 (some .int) :: ([.classLink RX4 48 "java/lang/IllegalArgumentException", .initialized "java/lang/IllegalArgumentException", .fieldLink RX4 28 "DockyardSlots" "tolerance" "I", .methodLink RX4 44 yX4_isOutside, .static yX4_isOutside, .initialized RX4, .code yX4_isOutside cX4_isOutside 3 (some .boolean)] ++ wsX40 ++ (vx_atS RX4 52 "java/lang/IllegalArgumentException" ["java/lang/RuntimeException", "java/lang/Exception"]).filter goodWord)
def wsX4_setCharges : List Cond := .code yX4_setCharges cX4_setCharges 6 (some .int) :: ([.classLink RX4 48 "java/lang/IllegalArgumentException", .initialized "java/lang/IllegalArgumentException", .fieldLink RX4 32 "DockyardSlots" "freeHours" "I", .fieldLink RX4 35 "DockyardSlots" "firstRate" "I", .fieldLink RX4 38 "DockyardSlots" "firstHours" "I", .fieldLink RX4 41 "DockyardSlots" "secondRate" "I", .methodLink RX4 44 yX4_isOutside, .static yX4_isOutside, .initialized RX4, .code yX4_isOutside cX4_isOutside 3 (some .boolean)] ++ wsX40 ++ (vx_atS RX4 52 "java/lang/IllegalArgumentException" ["java/lang/RuntimeException", "java/lang/Exception"]).filter goodWord)
def wsX4_book_r1 : List Cond := [Cond.classLink RX4 48 "java/lang/IllegalArgumentException", Cond.initialized "java/lang/IllegalArgumentException", Cond.classLink RX4 58 "java/lang/IllegalStateException", Cond.initialized "java/lang/IllegalStateException", Cond.fieldLink RX4 81 "DockyardSlots" "now" "I", Cond.fieldLink RX4 86 "DockyardSlots" "appointmentCount" "I", Cond.fieldLink RX4 24 "DockyardSlots" "appointments" "[LDockyardSlots$Appointment;", Cond.classLink RX4 22 RX0, Cond.instantiable RX0 10, Cond.initialized RX0, Cond.methodLink RX4 44 yX4_isOutside, Cond.static yX4_isOutside, Cond.initialized RX4, Cond.code yX4_isOutside cX4_isOutside 3 (some .boolean), Cond.methodLink RX4 91 yX0_init, Cond.instanceMethod yX0_init, Cond.code yX0_init cX0_init 5 none, Cond.methodLink RX0 3 objectInit, Cond.instanceMethod objectInit, Cond.code objectInit ⟨#[0xb1]⟩ 1 none, Cond.fieldLink RX0 9 "DockyardSlots$Appointment" "number" "I", Cond.fieldLink RX0 15 "DockyardSlots$Appointment" "hour" "I", Cond.fieldLink RX0 18 "DockyardSlots$Appointment" "kind" "C", Cond.fieldLink RX0 22 "DockyardSlots$Appointment" "work" "I"]
def wsX4_book_r2 : List Cond := [Cond.fieldLink RX0 25 "DockyardSlots$Appointment" "state" "C"]
def wsX4_book : List Cond := .code yX4_book cX4_book 5 (some .int) :: ((wsX4_book_r1 ++ wsX4_book_r2) ++ wsX40 ++ wsX00 ++ (vx_atS RX4 52 "java/lang/IllegalArgumentException" ["java/lang/RuntimeException", "java/lang/Exception"]).filter goodWord ++ (vx_atS RX4 62 "java/lang/IllegalStateException" ["java/lang/RuntimeException", "java/lang/Exception"]).filter goodWord)
def wsX4_appointmentOrThrow : List Cond := .code yX4_appointmentOrThrow cX4_appointmentOrThrow 3 (some (.object "DockyardSlots$Appointment")) :: ([.classLink RX4 142 "java/util/NoSuchElementException", .initialized "java/util/NoSuchElementException", .fieldLink RX4 86 "DockyardSlots" "appointmentCount" "I", .fieldLink RX4 24 "DockyardSlots" "appointments" "[LDockyardSlots$Appointment;"] ++ wsX40 ++ (vx_atS RX4 146 "java/util/NoSuchElementException" ["java/lang/RuntimeException", "java/lang/Exception"]).filter goodWord)
def wsX4_laneOrThrow : List Cond := .code yX4_laneOrThrow cX4_laneOrThrow 3 (some (.object "DockyardSlots$Lane")) :: ([.classLink RX4 168 "java/lang/IndexOutOfBoundsException", .initialized "java/lang/IndexOutOfBoundsException", .fieldLink RX4 10 "DockyardSlots" "lanes" "LDockyardSlots$LaneRow;", .methodLink RX4 247 yX3_laneAt, .instanceMethod yX3_laneAt, .selects RX3 yX3_laneAt yX3_laneAt, .initialized RX3, .code yX3_laneAt cX3_laneAt 2 (some (.object "DockyardSlots$Lane")), .fieldLink RX3 17 "DockyardSlots$LaneRow" "count" "I", .fieldLink RX3 11 "DockyardSlots$LaneRow" "lanes" "[LDockyardSlots$Lane;"] ++ wsX40 ++ wsX30 ++ (vx_atS RX4 172 "java/lang/IndexOutOfBoundsException" ["java/lang/RuntimeException", "java/lang/Exception"]).filter goodWord)
def wsX4_punctualityOf : List Cond := .code yX4_punctualityOf cX4_punctualityOf 3 (some .char) :: ([.fieldLink RX4 129 "DockyardSlots$Appointment" "arrivedAt" "I", .fieldLink RX4 139 "DockyardSlots$Appointment" "hour" "I", .fieldLink RX4 28 "DockyardSlots" "tolerance" "I"] ++ wsX00 ++ wsX40)
def wsX4_arrive_r1 : List Cond := [Cond.classLink RX4 58 "java/lang/IllegalStateException", Cond.initialized "java/lang/IllegalStateException", Cond.classLink RX4 120 "java/lang/UnsupportedOperationException", Cond.initialized "java/lang/UnsupportedOperationException", Cond.fieldLink RX4 102 "DockyardSlots$Appointment" "state" "C", Cond.fieldLink RX4 10 "DockyardSlots" "lanes" "LDockyardSlots$LaneRow;", Cond.fieldLink RX4 81 "DockyardSlots" "now" "I", Cond.fieldLink RX4 129 "DockyardSlots$Appointment" "arrivedAt" "I", Cond.methodLink RX4 94 yX4_appointmentOrThrow, Cond.instanceMethod yX4_appointmentOrThrow, Cond.selects RX4 yX4_appointmentOrThrow yX4_appointmentOrThrow, Cond.initialized RX4, Cond.code yX4_appointmentOrThrow cX4_appointmentOrThrow 3 (some (.object "DockyardSlots$Appointment")), Cond.classLink RX4 142 "java/util/NoSuchElementException", Cond.initialized "java/util/NoSuchElementException", Cond.fieldLink RX4 86 "DockyardSlots" "appointmentCount" "I", Cond.fieldLink RX4 24 "DockyardSlots" "appointments" "[LDockyardSlots$Appointment;", Cond.methodLink RX4 98 yX4_laneOrThrow, Cond.instanceMethod yX4_laneOrThrow, Cond.selects RX4 yX4_laneOrThrow yX4_laneOrThrow, Cond.code yX4_laneOrThrow cX4_laneOrThrow 3 (some (.object "DockyardSlots$Lane")), Cond.classLink RX4 168 "java/lang/IndexOutOfBoundsException", Cond.initialized "java/lang/IndexOutOfBoundsException", Cond.methodLink RX4 247 yX3_laneAt]
def wsX4_arrive_r2 : List Cond := [Cond.instanceMethod yX3_laneAt, Cond.selects RX3 yX3_laneAt yX3_laneAt, Cond.initialized RX3, Cond.code yX3_laneAt cX3_laneAt 2 (some (.object "DockyardSlots$Lane")), Cond.fieldLink RX3 17 "DockyardSlots$LaneRow" "count" "I", Cond.fieldLink RX3 11 "DockyardSlots$LaneRow" "lanes" "[LDockyardSlots$Lane;", Cond.methodLink RX4 108 yX3_trailerCount, Cond.instanceMethod yX3_trailerCount, Cond.selects RX3 yX3_trailerCount yX3_trailerCount, Cond.code yX3_trailerCount cX3_trailerCount 4 (some .int), Cond.fieldLink RX3 28 "DockyardSlots$Lane" "count" "I", Cond.methodLink RX3 24 yX3_laneAt, Cond.methodLink RX4 114 yX2_canTake, Cond.instanceMethod yX2_canTake, Cond.selects RX2 yX2_canTake yX2_canTake, Cond.initialized RX2, Cond.code yX2_canTake cX2_canTake 2 (some .boolean), Cond.fieldLink RX2 28 "DockyardSlots$Lane" "count" "I", Cond.fieldLink RX2 15 "DockyardSlots$Lane" "capacity" "I", Cond.fieldLink RX2 18 "DockyardSlots$Lane" "hasPower" "Z", Cond.fieldLink RX2 31 "DockyardSlots$Appointment" "kind" "C", Cond.methodLink RX4 125 yX2_bringIn, Cond.instanceMethod yX2_bringIn, Cond.selects RX2 yX2_bringIn yX2_bringIn]
def wsX4_arrive_r3 : List Cond := [Cond.code yX2_bringIn cX2_bringIn 2 none, Cond.fieldLink RX2 24 "DockyardSlots$Lane" "trailers" "[LDockyardSlots$Appointment;", Cond.fieldLink RX2 35 "DockyardSlots$Appointment" "lane" "LDockyardSlots$Lane;", Cond.fieldLink RX2 39 "DockyardSlots$Appointment" "place" "I", Cond.methodLink RX4 132 yX4_punctualityOf, Cond.instanceMethod yX4_punctualityOf, Cond.selects RX4 yX4_punctualityOf yX4_punctualityOf, Cond.code yX4_punctualityOf cX4_punctualityOf 3 (some .char), Cond.fieldLink RX4 139 "DockyardSlots$Appointment" "hour" "I", Cond.fieldLink RX4 28 "DockyardSlots" "tolerance" "I"]
def wsX4_arrive : List Cond := .code yX4_arrive cX4_arrive 5 (some .char) :: ((wsX4_arrive_r1 ++ (wsX4_arrive_r2 ++ wsX4_arrive_r3)) ++ wsX00 ++ wsX40 ++ wsX30 ++ wsX20 ++ (vx_atS RX4 62 "java/lang/IllegalStateException" ["java/lang/RuntimeException", "java/lang/Exception"]).filter goodWord ++ (vx_atS RX4 124 "java/lang/UnsupportedOperationException" ["java/lang/RuntimeException", "java/lang/Exception"]).filter goodWord ++ (vx_atS RX4 146 "java/util/NoSuchElementException" ["java/lang/RuntimeException", "java/lang/Exception"]).filter goodWord ++ (vx_atS RX4 172 "java/lang/IndexOutOfBoundsException" ["java/lang/RuntimeException", "java/lang/Exception"]).filter goodWord)
def wsX4_state : List Cond := .code yX4_state cX4_state 2 (some .char) :: ([.fieldLink RX4 102 "DockyardSlots$Appointment" "state" "C", .methodLink RX4 94 yX4_appointmentOrThrow, .instanceMethod yX4_appointmentOrThrow, .selects RX4 yX4_appointmentOrThrow yX4_appointmentOrThrow, .initialized RX4, .code yX4_appointmentOrThrow cX4_appointmentOrThrow 3 (some (.object "DockyardSlots$Appointment")), .classLink RX4 142 "java/util/NoSuchElementException", .initialized "java/util/NoSuchElementException", .fieldLink RX4 86 "DockyardSlots" "appointmentCount" "I", .fieldLink RX4 24 "DockyardSlots" "appointments" "[LDockyardSlots$Appointment;"] ++ wsX00 ++ wsX40 ++ (vx_atS RX4 146 "java/util/NoSuchElementException" ["java/lang/RuntimeException", "java/lang/Exception"]).filter goodWord)
def wsX4_arrivedOrThrow : List Cond := .code yX4_arrivedOrThrow cX4_arrivedOrThrow 3 (some (.object "DockyardSlots$Appointment")) :: ([.classLink RX4 58 "java/lang/IllegalStateException", .initialized "java/lang/IllegalStateException", .methodLink RX4 94 yX4_appointmentOrThrow, .instanceMethod yX4_appointmentOrThrow, .selects RX4 yX4_appointmentOrThrow yX4_appointmentOrThrow, .initialized RX4, .code yX4_appointmentOrThrow cX4_appointmentOrThrow 3 (some (.object "DockyardSlots$Appointment")), .classLink RX4 142 "java/util/NoSuchElementException", .initialized "java/util/NoSuchElementException", .fieldLink RX4 86 "DockyardSlots" "appointmentCount" "I", .fieldLink RX4 24 "DockyardSlots" "appointments" "[LDockyardSlots$Appointment;", .methodLink RX4 237 yX0_hasArrived, .instanceMethod yX0_hasArrived, .selects RX0 yX0_hasArrived yX0_hasArrived, .initialized RX0, .code yX0_hasArrived cX0_hasArrived 1 (some .boolean), .fieldLink RX0 25 "DockyardSlots$Appointment" "state" "C"] ++ wsX40 ++ wsX00 ++ (vx_atS RX4 62 "java/lang/IllegalStateException" ["java/lang/RuntimeException", "java/lang/Exception"]).filter goodWord ++ (vx_atS RX4 146 "java/util/NoSuchElementException" ["java/lang/RuntimeException", "java/lang/Exception"]).filter goodWord)
def wsX4_punctuality_r1 : List Cond := [Cond.methodLink RX4 136 yX4_arrivedOrThrow, Cond.instanceMethod yX4_arrivedOrThrow, Cond.selects RX4 yX4_arrivedOrThrow yX4_arrivedOrThrow, Cond.initialized RX4, Cond.code yX4_arrivedOrThrow cX4_arrivedOrThrow 3 (some (.object "DockyardSlots$Appointment")), Cond.classLink RX4 58 "java/lang/IllegalStateException", Cond.initialized "java/lang/IllegalStateException", Cond.methodLink RX4 94 yX4_appointmentOrThrow, Cond.instanceMethod yX4_appointmentOrThrow, Cond.selects RX4 yX4_appointmentOrThrow yX4_appointmentOrThrow, Cond.code yX4_appointmentOrThrow cX4_appointmentOrThrow 3 (some (.object "DockyardSlots$Appointment")), Cond.classLink RX4 142 "java/util/NoSuchElementException", Cond.initialized "java/util/NoSuchElementException", Cond.fieldLink RX4 86 "DockyardSlots" "appointmentCount" "I", Cond.fieldLink RX4 24 "DockyardSlots" "appointments" "[LDockyardSlots$Appointment;", Cond.methodLink RX4 237 yX0_hasArrived, Cond.instanceMethod yX0_hasArrived, Cond.selects RX0 yX0_hasArrived yX0_hasArrived, Cond.initialized RX0, Cond.code yX0_hasArrived cX0_hasArrived 1 (some .boolean), Cond.fieldLink RX0 25 "DockyardSlots$Appointment" "state" "C", Cond.methodLink RX4 132 yX4_punctualityOf, Cond.instanceMethod yX4_punctualityOf, Cond.selects RX4 yX4_punctualityOf yX4_punctualityOf]
def wsX4_punctuality_r2 : List Cond := [Cond.code yX4_punctualityOf cX4_punctualityOf 3 (some .char), Cond.fieldLink RX4 129 "DockyardSlots$Appointment" "arrivedAt" "I", Cond.fieldLink RX4 139 "DockyardSlots$Appointment" "hour" "I", Cond.fieldLink RX4 28 "DockyardSlots" "tolerance" "I"]
def wsX4_punctuality : List Cond := .code yX4_punctuality cX4_punctuality 2 (some .char) :: ((wsX4_punctuality_r1 ++ wsX4_punctuality_r2) ++ wsX40 ++ wsX00 ++ (vx_atS RX4 62 "java/lang/IllegalStateException" ["java/lang/RuntimeException", "java/lang/Exception"]).filter goodWord ++ (vx_atS RX4 146 "java/util/NoSuchElementException" ["java/lang/RuntimeException", "java/lang/Exception"]).filter goodWord)
def wsX4_nextBooked : List Cond := .code yX4_nextBooked cX4_nextBooked 4 (some .int) :: ([.classLink RX4 142 "java/util/NoSuchElementException", .initialized "java/util/NoSuchElementException", .fieldLink RX4 86 "DockyardSlots" "appointmentCount" "I", .fieldLink RX4 24 "DockyardSlots" "appointments" "[LDockyardSlots$Appointment;", .fieldLink RX4 102 "DockyardSlots$Appointment" "state" "C", .fieldLink RX4 139 "DockyardSlots$Appointment" "hour" "I", .fieldLink RX4 147 "DockyardSlots$Appointment" "number" "I"] ++ wsX40 ++ wsX00 ++ (vx_atS RX4 146 "java/util/NoSuchElementException" ["java/lang/RuntimeException", "java/lang/Exception"]).filter goodWord)
def wsX4_homeOrThrow : List Cond := .code yX4_homeOrThrow cX4_homeOrThrow 2 (some (.object "DockyardSlots$Lane")) :: ([.classLink RX4 58 "java/lang/IllegalStateException", .initialized "java/lang/IllegalStateException", .fieldLink RX4 252 "DockyardSlots$Appointment" "lane" "LDockyardSlots$Lane;"] ++ wsX00 ++ (vx_atS RX4 62 "java/lang/IllegalStateException" ["java/lang/RuntimeException", "java/lang/Exception"]).filter goodWord)
def wsX4_homeOfReachedOrThrow : List Cond := .code yX4_homeOfReachedOrThrow cX4_homeOfReachedOrThrow 2 (some (.object "DockyardSlots$Lane")) :: ([.classLink RX4 58 "java/lang/IllegalStateException", .initialized "java/lang/IllegalStateException", .methodLink RX4 202 yX4_homeOrThrow, .static yX4_homeOrThrow, .initialized RX4, .code yX4_homeOrThrow cX4_homeOrThrow 2 (some (.object "DockyardSlots$Lane")), .fieldLink RX4 252 "DockyardSlots$Appointment" "lane" "LDockyardSlots$Lane;", .methodLink RX4 205 yX2_countBefore, .instanceMethod yX2_countBefore, .selects RX2 yX2_countBefore yX2_countBefore, .initialized RX2, .code yX2_countBefore cX2_countBefore 2 (some .int), .fieldLink RX2 28 "DockyardSlots$Lane" "count" "I", .fieldLink RX2 39 "DockyardSlots$Appointment" "place" "I"] ++ wsX00 ++ wsX20 ++ (vx_atS RX4 62 "java/lang/IllegalStateException" ["java/lang/RuntimeException", "java/lang/Exception"]).filter goodWord)
def wsX4_shift_r1 : List Cond := [Cond.classLink RX4 120 "java/lang/UnsupportedOperationException", Cond.initialized "java/lang/UnsupportedOperationException", Cond.fieldLink RX4 154 "DockyardSlots$Lane" "number" "I", Cond.fieldLink RX4 161 "DockyardSlots" "moveCount" "I", Cond.methodLink RX4 94 yX4_appointmentOrThrow, Cond.instanceMethod yX4_appointmentOrThrow, Cond.selects RX4 yX4_appointmentOrThrow yX4_appointmentOrThrow, Cond.initialized RX4, Cond.code yX4_appointmentOrThrow cX4_appointmentOrThrow 3 (some (.object "DockyardSlots$Appointment")), Cond.classLink RX4 142 "java/util/NoSuchElementException", Cond.initialized "java/util/NoSuchElementException", Cond.fieldLink RX4 86 "DockyardSlots" "appointmentCount" "I", Cond.fieldLink RX4 24 "DockyardSlots" "appointments" "[LDockyardSlots$Appointment;", Cond.methodLink RX4 98 yX4_laneOrThrow, Cond.instanceMethod yX4_laneOrThrow, Cond.selects RX4 yX4_laneOrThrow yX4_laneOrThrow, Cond.code yX4_laneOrThrow cX4_laneOrThrow 3 (some (.object "DockyardSlots$Lane")), Cond.classLink RX4 168 "java/lang/IndexOutOfBoundsException", Cond.initialized "java/lang/IndexOutOfBoundsException", Cond.fieldLink RX4 10 "DockyardSlots" "lanes" "LDockyardSlots$LaneRow;", Cond.methodLink RX4 247 yX3_laneAt, Cond.instanceMethod yX3_laneAt, Cond.selects RX3 yX3_laneAt yX3_laneAt, Cond.initialized RX3]
def wsX4_shift_r2 : List Cond := [Cond.code yX3_laneAt cX3_laneAt 2 (some (.object "DockyardSlots$Lane")), Cond.fieldLink RX3 17 "DockyardSlots$LaneRow" "count" "I", Cond.fieldLink RX3 11 "DockyardSlots$LaneRow" "lanes" "[LDockyardSlots$Lane;", Cond.methodLink RX4 150 yX4_homeOfReachedOrThrow, Cond.static yX4_homeOfReachedOrThrow, Cond.code yX4_homeOfReachedOrThrow cX4_homeOfReachedOrThrow 2 (some (.object "DockyardSlots$Lane")), Cond.classLink RX4 58 "java/lang/IllegalStateException", Cond.initialized "java/lang/IllegalStateException", Cond.methodLink RX4 202 yX4_homeOrThrow, Cond.static yX4_homeOrThrow, Cond.code yX4_homeOrThrow cX4_homeOrThrow 2 (some (.object "DockyardSlots$Lane")), Cond.fieldLink RX4 252 "DockyardSlots$Appointment" "lane" "LDockyardSlots$Lane;", Cond.methodLink RX4 205 yX2_countBefore, Cond.instanceMethod yX2_countBefore, Cond.selects RX2 yX2_countBefore yX2_countBefore, Cond.initialized RX2, Cond.code yX2_countBefore cX2_countBefore 2 (some .int), Cond.fieldLink RX2 28 "DockyardSlots$Lane" "count" "I", Cond.fieldLink RX2 39 "DockyardSlots$Appointment" "place" "I", Cond.methodLink RX4 114 yX2_canTake, Cond.instanceMethod yX2_canTake, Cond.selects RX2 yX2_canTake yX2_canTake, Cond.code yX2_canTake cX2_canTake 2 (some .boolean), Cond.fieldLink RX2 15 "DockyardSlots$Lane" "capacity" "I"]
def wsX4_shift_r3 : List Cond := [Cond.fieldLink RX2 18 "DockyardSlots$Lane" "hasPower" "Z", Cond.fieldLink RX2 31 "DockyardSlots$Appointment" "kind" "C", Cond.methodLink RX4 157 yX2_takeOut, Cond.instanceMethod yX2_takeOut, Cond.selects RX2 yX2_takeOut yX2_takeOut, Cond.code yX2_takeOut cX2_takeOut 2 (some (.object "DockyardSlots$Appointment")), Cond.fieldLink RX2 35 "DockyardSlots$Appointment" "lane" "LDockyardSlots$Lane;", Cond.methodLink RX2 42 yX2_fromExit, Cond.instanceMethod yX2_fromExit, Cond.selects RX2 yX2_fromExit yX2_fromExit, Cond.code yX2_fromExit cX2_fromExit 2 (some (.object "DockyardSlots$Appointment")), Cond.fieldLink RX2 24 "DockyardSlots$Lane" "trailers" "[LDockyardSlots$Appointment;", Cond.methodLink RX4 125 yX2_bringIn, Cond.instanceMethod yX2_bringIn, Cond.selects RX2 yX2_bringIn yX2_bringIn, Cond.code yX2_bringIn cX2_bringIn 2 none]
def wsX4_shift : List Cond := .code yX4_shift cX4_shift 6 (some .int) :: ((wsX4_shift_r1 ++ (wsX4_shift_r2 ++ wsX4_shift_r3)) ++ wsX20 ++ wsX40 ++ wsX30 ++ wsX00 ++ (vx_atS RX4 124 "java/lang/UnsupportedOperationException" ["java/lang/RuntimeException", "java/lang/Exception"]).filter goodWord ++ (vx_atS RX4 146 "java/util/NoSuchElementException" ["java/lang/RuntimeException", "java/lang/Exception"]).filter goodWord ++ (vx_atS RX4 172 "java/lang/IndexOutOfBoundsException" ["java/lang/RuntimeException", "java/lang/Exception"]).filter goodWord ++ (vx_atS RX4 62 "java/lang/IllegalStateException" ["java/lang/RuntimeException", "java/lang/Exception"]).filter goodWord)
def wsX4_doorAt : List Cond := .code yX4_doorAt cX4_doorAt 2 (some (.object "DockyardSlots$Door")) :: ([.fieldLink RX4 69 "DockyardSlots" "doorCount" "I", .fieldLink RX4 18 "DockyardSlots" "doors" "[LDockyardSlots$Door;"] ++ wsX40)
def wsX4_dock_r1 : List Cond := [Cond.classLink RX4 168 "java/lang/IndexOutOfBoundsException", Cond.initialized "java/lang/IndexOutOfBoundsException", Cond.classLink RX4 120 "java/lang/UnsupportedOperationException", Cond.initialized "java/lang/UnsupportedOperationException", Cond.fieldLink RX4 176 "DockyardSlots$Door" "isUsed" "Z", Cond.fieldLink RX4 180 "DockyardSlots$Appointment" "door" "LDockyardSlots$Door;", Cond.fieldLink RX4 102 "DockyardSlots$Appointment" "state" "C", Cond.fieldLink RX4 81 "DockyardSlots" "now" "I", Cond.fieldLink RX4 184 "DockyardSlots$Appointment" "dockedAt" "I", Cond.fieldLink RX4 161 "DockyardSlots" "moveCount" "I", Cond.methodLink RX4 94 yX4_appointmentOrThrow, Cond.instanceMethod yX4_appointmentOrThrow, Cond.selects RX4 yX4_appointmentOrThrow yX4_appointmentOrThrow, Cond.initialized RX4, Cond.code yX4_appointmentOrThrow cX4_appointmentOrThrow 3 (some (.object "DockyardSlots$Appointment")), Cond.classLink RX4 142 "java/util/NoSuchElementException", Cond.initialized "java/util/NoSuchElementException", Cond.fieldLink RX4 86 "DockyardSlots" "appointmentCount" "I", Cond.fieldLink RX4 24 "DockyardSlots" "appointments" "[LDockyardSlots$Appointment;", Cond.methodLink RX4 164 yX4_doorAt, Cond.instanceMethod yX4_doorAt, Cond.selects RX4 yX4_doorAt yX4_doorAt, Cond.code yX4_doorAt cX4_doorAt 2 (some (.object "DockyardSlots$Door")), Cond.fieldLink RX4 69 "DockyardSlots" "doorCount" "I"]
def wsX4_dock_r2 : List Cond := [Cond.fieldLink RX4 18 "DockyardSlots" "doors" "[LDockyardSlots$Door;", Cond.methodLink RX4 150 yX4_homeOfReachedOrThrow, Cond.static yX4_homeOfReachedOrThrow, Cond.code yX4_homeOfReachedOrThrow cX4_homeOfReachedOrThrow 2 (some (.object "DockyardSlots$Lane")), Cond.classLink RX4 58 "java/lang/IllegalStateException", Cond.initialized "java/lang/IllegalStateException", Cond.methodLink RX4 202 yX4_homeOrThrow, Cond.static yX4_homeOrThrow, Cond.code yX4_homeOrThrow cX4_homeOrThrow 2 (some (.object "DockyardSlots$Lane")), Cond.fieldLink RX4 252 "DockyardSlots$Appointment" "lane" "LDockyardSlots$Lane;", Cond.methodLink RX4 205 yX2_countBefore, Cond.instanceMethod yX2_countBefore, Cond.selects RX2 yX2_countBefore yX2_countBefore, Cond.initialized RX2, Cond.code yX2_countBefore cX2_countBefore 2 (some .int), Cond.fieldLink RX2 28 "DockyardSlots$Lane" "count" "I", Cond.fieldLink RX2 39 "DockyardSlots$Appointment" "place" "I", Cond.methodLink RX4 173 yX1_canTake, Cond.instanceMethod yX1_canTake, Cond.selects RX1 yX1_canTake yX1_canTake, Cond.initialized RX1, Cond.code yX1_canTake cX1_canTake 2 (some .boolean), Cond.fieldLink RX1 15 "DockyardSlots$Door" "isUsed" "Z", Cond.fieldLink RX1 9 "DockyardSlots$Door" "kind" "C"]
def wsX4_dock_r3 : List Cond := [Cond.fieldLink RX1 19 "DockyardSlots$Appointment" "kind" "C", Cond.methodLink RX4 157 yX2_takeOut, Cond.instanceMethod yX2_takeOut, Cond.selects RX2 yX2_takeOut yX2_takeOut, Cond.code yX2_takeOut cX2_takeOut 2 (some (.object "DockyardSlots$Appointment")), Cond.fieldLink RX2 35 "DockyardSlots$Appointment" "lane" "LDockyardSlots$Lane;", Cond.methodLink RX2 42 yX2_fromExit, Cond.instanceMethod yX2_fromExit, Cond.selects RX2 yX2_fromExit yX2_fromExit, Cond.code yX2_fromExit cX2_fromExit 2 (some (.object "DockyardSlots$Appointment")), Cond.fieldLink RX2 24 "DockyardSlots$Lane" "trailers" "[LDockyardSlots$Appointment;", Cond.methodLink RX4 187 yX0_doneAt, Cond.instanceMethod yX0_doneAt, Cond.selects RX0 yX0_doneAt yX0_doneAt, Cond.initialized RX0, Cond.code yX0_doneAt cX0_doneAt 1 (some .int), Cond.fieldLink RX0 28 "DockyardSlots$Appointment" "dockedAt" "I", Cond.fieldLink RX0 22 "DockyardSlots$Appointment" "work" "I"]
def wsX4_dock : List Cond := .code yX4_dock cX4_dock 6 (some .int) :: ((wsX4_dock_r1 ++ (wsX4_dock_r2 ++ wsX4_dock_r3)) ++ wsX10 ++ wsX00 ++ wsX40 ++ wsX20 ++ (vx_atS RX4 172 "java/lang/IndexOutOfBoundsException" ["java/lang/RuntimeException", "java/lang/Exception"]).filter goodWord ++ (vx_atS RX4 124 "java/lang/UnsupportedOperationException" ["java/lang/RuntimeException", "java/lang/Exception"]).filter goodWord ++ (vx_atS RX4 146 "java/util/NoSuchElementException" ["java/lang/RuntimeException", "java/lang/Exception"]).filter goodWord ++ (vx_atS RX4 62 "java/lang/IllegalStateException" ["java/lang/RuntimeException", "java/lang/Exception"]).filter goodWord)
def wsX4_waitingHours : List Cond := .code yX4_waitingHours cX4_waitingHours 4 (some .int) :: ([.fieldLink RX4 129 "DockyardSlots$Appointment" "arrivedAt" "I", .fieldLink RX4 139 "DockyardSlots$Appointment" "hour" "I", .methodLink RX4 274 Lib.Math.max.name, .static Lib.Math.max.name, .initialized "java/lang/Math", .code Lib.Math.max.name Lib.Math.max.code 2 (some .int), .fieldLink RX4 102 "DockyardSlots$Appointment" "state" "C", .fieldLink RX4 81 "DockyardSlots" "now" "I", .fieldLink RX4 184 "DockyardSlots$Appointment" "dockedAt" "I"] ++ wsX00 ++ wsX40)
def wsX4_chargeInSteps_r1 : List Cond := [Cond.fieldLink RX4 32 "DockyardSlots" "freeHours" "I", Cond.methodLink RX4 274 Lib.Math.max.name, Cond.static Lib.Math.max.name, Cond.initialized "java/lang/Math", Cond.code Lib.Math.max.name Lib.Math.max.code 2 (some .int), Cond.fieldLink RX4 38 "DockyardSlots" "firstHours" "I", Cond.methodLink RX4 268 Lib.Math.min.name, Cond.static Lib.Math.min.name, Cond.code Lib.Math.min.name Lib.Math.min.code 2 (some .int), Cond.fieldLink RX4 35 "DockyardSlots" "firstRate" "I", Cond.fieldLink RX4 41 "DockyardSlots" "secondRate" "I", Cond.methodLink RX4 132 yX4_punctualityOf, Cond.instanceMethod yX4_punctualityOf, Cond.selects RX4 yX4_punctualityOf yX4_punctualityOf, Cond.initialized RX4, Cond.code yX4_punctualityOf cX4_punctualityOf 3 (some .char), Cond.fieldLink RX4 129 "DockyardSlots$Appointment" "arrivedAt" "I", Cond.fieldLink RX4 139 "DockyardSlots$Appointment" "hour" "I", Cond.fieldLink RX4 28 "DockyardSlots" "tolerance" "I", Cond.methodLink RX4 225 yX4_waitingHours, Cond.instanceMethod yX4_waitingHours, Cond.selects RX4 yX4_waitingHours yX4_waitingHours, Cond.code yX4_waitingHours cX4_waitingHours 4 (some .int), Cond.fieldLink RX4 102 "DockyardSlots$Appointment" "state" "C"]
def wsX4_chargeInSteps_r2 : List Cond := [Cond.fieldLink RX4 81 "DockyardSlots" "now" "I", Cond.fieldLink RX4 184 "DockyardSlots$Appointment" "dockedAt" "I"]
def wsX4_chargeInSteps : List Cond := .code yX4_chargeInSteps cX4_chargeInSteps 4 (some .int) :: ((wsX4_chargeInSteps_r1 ++ wsX4_chargeInSteps_r2) ++ wsX40 ++ wsX00)
def wsX4_leave_r1 : List Cond := [Cond.classLink RX4 58 "java/lang/IllegalStateException", Cond.initialized "java/lang/IllegalStateException", Cond.classLink RX4 120 "java/lang/UnsupportedOperationException", Cond.initialized "java/lang/UnsupportedOperationException", Cond.fieldLink RX4 180 "DockyardSlots$Appointment" "door" "LDockyardSlots$Door;", Cond.fieldLink RX4 81 "DockyardSlots" "now" "I", Cond.fieldLink RX4 176 "DockyardSlots$Door" "isUsed" "Z", Cond.fieldLink RX4 102 "DockyardSlots$Appointment" "state" "C", Cond.fieldLink RX4 198 "DockyardSlots" "chargedSum" "J", Cond.methodLink RX4 94 yX4_appointmentOrThrow, Cond.instanceMethod yX4_appointmentOrThrow, Cond.selects RX4 yX4_appointmentOrThrow yX4_appointmentOrThrow, Cond.initialized RX4, Cond.code yX4_appointmentOrThrow cX4_appointmentOrThrow 3 (some (.object "DockyardSlots$Appointment")), Cond.classLink RX4 142 "java/util/NoSuchElementException", Cond.initialized "java/util/NoSuchElementException", Cond.fieldLink RX4 86 "DockyardSlots" "appointmentCount" "I", Cond.fieldLink RX4 24 "DockyardSlots" "appointments" "[LDockyardSlots$Appointment;", Cond.methodLink RX4 187 yX0_doneAt, Cond.instanceMethod yX0_doneAt, Cond.selects RX0 yX0_doneAt yX0_doneAt, Cond.initialized RX0, Cond.code yX0_doneAt cX0_doneAt 1 (some .int), Cond.fieldLink RX0 28 "DockyardSlots$Appointment" "dockedAt" "I"]
def wsX4_leave_r2 : List Cond := [Cond.fieldLink RX0 22 "DockyardSlots$Appointment" "work" "I", Cond.methodLink RX4 194 yX4_chargeInSteps, Cond.instanceMethod yX4_chargeInSteps, Cond.selects RX4 yX4_chargeInSteps yX4_chargeInSteps, Cond.code yX4_chargeInSteps cX4_chargeInSteps 4 (some .int), Cond.fieldLink RX4 32 "DockyardSlots" "freeHours" "I", Cond.methodLink RX4 274 Lib.Math.max.name, Cond.static Lib.Math.max.name, Cond.initialized "java/lang/Math", Cond.code Lib.Math.max.name Lib.Math.max.code 2 (some .int), Cond.fieldLink RX4 38 "DockyardSlots" "firstHours" "I", Cond.methodLink RX4 268 Lib.Math.min.name, Cond.static Lib.Math.min.name, Cond.code Lib.Math.min.name Lib.Math.min.code 2 (some .int), Cond.fieldLink RX4 35 "DockyardSlots" "firstRate" "I", Cond.fieldLink RX4 41 "DockyardSlots" "secondRate" "I", Cond.methodLink RX4 132 yX4_punctualityOf, Cond.instanceMethod yX4_punctualityOf, Cond.selects RX4 yX4_punctualityOf yX4_punctualityOf, Cond.code yX4_punctualityOf cX4_punctualityOf 3 (some .char), Cond.fieldLink RX4 129 "DockyardSlots$Appointment" "arrivedAt" "I", Cond.fieldLink RX4 139 "DockyardSlots$Appointment" "hour" "I", Cond.fieldLink RX4 28 "DockyardSlots" "tolerance" "I", Cond.methodLink RX4 225 yX4_waitingHours]
def wsX4_leave_r3 : List Cond := [Cond.instanceMethod yX4_waitingHours, Cond.selects RX4 yX4_waitingHours yX4_waitingHours, Cond.code yX4_waitingHours cX4_waitingHours 4 (some .int), Cond.fieldLink RX4 184 "DockyardSlots$Appointment" "dockedAt" "I"]
def wsX4_leave : List Cond := .code yX4_leave cX4_leave 5 (some .int) :: ((wsX4_leave_r1 ++ (wsX4_leave_r2 ++ wsX4_leave_r3)) ++ wsX00 ++ wsX40 ++ wsX10 ++ (vx_atS RX4 62 "java/lang/IllegalStateException" ["java/lang/RuntimeException", "java/lang/Exception"]).filter goodWord ++ (vx_atS RX4 124 "java/lang/UnsupportedOperationException" ["java/lang/RuntimeException", "java/lang/Exception"]).filter goodWord ++ (vx_atS RX4 146 "java/util/NoSuchElementException" ["java/lang/RuntimeException", "java/lang/Exception"]).filter goodWord)
def wsX4_laneOf : List Cond := .code yX4_laneOf cX4_laneOf 2 (some .int) :: ([.fieldLink RX4 154 "DockyardSlots$Lane" "number" "I", .methodLink RX4 94 yX4_appointmentOrThrow, .instanceMethod yX4_appointmentOrThrow, .selects RX4 yX4_appointmentOrThrow yX4_appointmentOrThrow, .initialized RX4, .code yX4_appointmentOrThrow cX4_appointmentOrThrow 3 (some (.object "DockyardSlots$Appointment")), .classLink RX4 142 "java/util/NoSuchElementException", .initialized "java/util/NoSuchElementException", .fieldLink RX4 86 "DockyardSlots" "appointmentCount" "I", .fieldLink RX4 24 "DockyardSlots" "appointments" "[LDockyardSlots$Appointment;", .methodLink RX4 202 yX4_homeOrThrow, .static yX4_homeOrThrow, .code yX4_homeOrThrow cX4_homeOrThrow 2 (some (.object "DockyardSlots$Lane")), .classLink RX4 58 "java/lang/IllegalStateException", .initialized "java/lang/IllegalStateException", .fieldLink RX4 252 "DockyardSlots$Appointment" "lane" "LDockyardSlots$Lane;"] ++ wsX20 ++ wsX40 ++ wsX00 ++ (vx_atS RX4 146 "java/util/NoSuchElementException" ["java/lang/RuntimeException", "java/lang/Exception"]).filter goodWord ++ (vx_atS RX4 62 "java/lang/IllegalStateException" ["java/lang/RuntimeException", "java/lang/Exception"]).filter goodWord)
def wsX4_blockers : List Cond := .code yX4_blockers cX4_blockers 3 (some .int) :: ([.methodLink RX4 94 yX4_appointmentOrThrow, .instanceMethod yX4_appointmentOrThrow, .selects RX4 yX4_appointmentOrThrow yX4_appointmentOrThrow, .initialized RX4, .code yX4_appointmentOrThrow cX4_appointmentOrThrow 3 (some (.object "DockyardSlots$Appointment")), .classLink RX4 142 "java/util/NoSuchElementException", .initialized "java/util/NoSuchElementException", .fieldLink RX4 86 "DockyardSlots" "appointmentCount" "I", .fieldLink RX4 24 "DockyardSlots" "appointments" "[LDockyardSlots$Appointment;", .methodLink RX4 202 yX4_homeOrThrow, .static yX4_homeOrThrow, .code yX4_homeOrThrow cX4_homeOrThrow 2 (some (.object "DockyardSlots$Lane")), .classLink RX4 58 "java/lang/IllegalStateException", .initialized "java/lang/IllegalStateException", .fieldLink RX4 252 "DockyardSlots$Appointment" "lane" "LDockyardSlots$Lane;", .methodLink RX4 205 yX2_countBefore, .instanceMethod yX2_countBefore, .selects RX2 yX2_countBefore yX2_countBefore, .initialized RX2, .code yX2_countBefore cX2_countBefore 2 (some .int), .fieldLink RX2 28 "DockyardSlots$Lane" "count" "I", .fieldLink RX2 39 "DockyardSlots$Appointment" "place" "I"] ++ wsX40 ++ wsX00 ++ wsX20 ++ (vx_atS RX4 146 "java/util/NoSuchElementException" ["java/lang/RuntimeException", "java/lang/Exception"]).filter goodWord ++ (vx_atS RX4 62 "java/lang/IllegalStateException" ["java/lang/RuntimeException", "java/lang/Exception"]).filter goodWord)
def wsX4_trailerAt_r1 : List Cond := [Cond.classLink RX4 142 "java/util/NoSuchElementException", Cond.initialized "java/util/NoSuchElementException", Cond.fieldLink RX4 147 "DockyardSlots$Appointment" "number" "I", Cond.methodLink RX4 98 yX4_laneOrThrow, Cond.instanceMethod yX4_laneOrThrow, Cond.selects RX4 yX4_laneOrThrow yX4_laneOrThrow, Cond.initialized RX4, Cond.code yX4_laneOrThrow cX4_laneOrThrow 3 (some (.object "DockyardSlots$Lane")), Cond.classLink RX4 168 "java/lang/IndexOutOfBoundsException", Cond.initialized "java/lang/IndexOutOfBoundsException", Cond.fieldLink RX4 10 "DockyardSlots" "lanes" "LDockyardSlots$LaneRow;", Cond.methodLink RX4 247 yX3_laneAt, Cond.instanceMethod yX3_laneAt, Cond.selects RX3 yX3_laneAt yX3_laneAt, Cond.initialized RX3, Cond.code yX3_laneAt cX3_laneAt 2 (some (.object "DockyardSlots$Lane")), Cond.fieldLink RX3 17 "DockyardSlots$LaneRow" "count" "I", Cond.fieldLink RX3 11 "DockyardSlots$LaneRow" "lanes" "[LDockyardSlots$Lane;", Cond.methodLink RX4 208 yX2_fromExit, Cond.instanceMethod yX2_fromExit, Cond.selects RX2 yX2_fromExit yX2_fromExit, Cond.initialized RX2, Cond.code yX2_fromExit cX2_fromExit 2 (some (.object "DockyardSlots$Appointment")), Cond.fieldLink RX2 28 "DockyardSlots$Lane" "count" "I"]
def wsX4_trailerAt_r2 : List Cond := [Cond.fieldLink RX2 24 "DockyardSlots$Lane" "trailers" "[LDockyardSlots$Appointment;"]
def wsX4_trailerAt : List Cond := .code yX4_trailerAt cX4_trailerAt 4 (some .int) :: ((wsX4_trailerAt_r1 ++ wsX4_trailerAt_r2) ++ wsX00 ++ wsX40 ++ wsX30 ++ wsX20 ++ (vx_atS RX4 146 "java/util/NoSuchElementException" ["java/lang/RuntimeException", "java/lang/Exception"]).filter goodWord ++ (vx_atS RX4 172 "java/lang/IndexOutOfBoundsException" ["java/lang/RuntimeException", "java/lang/Exception"]).filter goodWord)
def wsX4_freeDoor_r1 : List Cond := [Cond.classLink RX4 58 "java/lang/IllegalStateException", Cond.initialized "java/lang/IllegalStateException", Cond.fieldLink RX4 69 "DockyardSlots" "doorCount" "I", Cond.methodLink RX4 94 yX4_appointmentOrThrow, Cond.instanceMethod yX4_appointmentOrThrow, Cond.selects RX4 yX4_appointmentOrThrow yX4_appointmentOrThrow, Cond.initialized RX4, Cond.code yX4_appointmentOrThrow cX4_appointmentOrThrow 3 (some (.object "DockyardSlots$Appointment")), Cond.classLink RX4 142 "java/util/NoSuchElementException", Cond.initialized "java/util/NoSuchElementException", Cond.fieldLink RX4 86 "DockyardSlots" "appointmentCount" "I", Cond.fieldLink RX4 24 "DockyardSlots" "appointments" "[LDockyardSlots$Appointment;", Cond.methodLink RX4 164 yX4_doorAt, Cond.instanceMethod yX4_doorAt, Cond.selects RX4 yX4_doorAt yX4_doorAt, Cond.code yX4_doorAt cX4_doorAt 2 (some (.object "DockyardSlots$Door")), Cond.fieldLink RX4 18 "DockyardSlots" "doors" "[LDockyardSlots$Door;", Cond.methodLink RX4 173 yX1_canTake, Cond.instanceMethod yX1_canTake, Cond.selects RX1 yX1_canTake yX1_canTake, Cond.initialized RX1, Cond.code yX1_canTake cX1_canTake 2 (some .boolean), Cond.fieldLink RX1 15 "DockyardSlots$Door" "isUsed" "Z", Cond.fieldLink RX1 9 "DockyardSlots$Door" "kind" "C"]
def wsX4_freeDoor_r2 : List Cond := [Cond.fieldLink RX1 19 "DockyardSlots$Appointment" "kind" "C"]
def wsX4_freeDoor : List Cond := .code yX4_freeDoor cX4_freeDoor 6 (some .int) :: ((wsX4_freeDoor_r1 ++ wsX4_freeDoor_r2) ++ wsX40 ++ wsX10 ++ wsX00 ++ (vx_atS RX4 62 "java/lang/IllegalStateException" ["java/lang/RuntimeException", "java/lang/Exception"]).filter goodWord ++ (vx_atS RX4 146 "java/util/NoSuchElementException" ["java/lang/RuntimeException", "java/lang/Exception"]).filter goodWord)
def wsX4_isReachedWithin_r1 : List Cond := [Cond.fieldLink RX4 55 "DockyardSlots$LaneRow" "count" "I", Cond.methodLink RX4 205 yX2_countBefore, Cond.instanceMethod yX2_countBefore, Cond.selects RX2 yX2_countBefore yX2_countBefore, Cond.initialized RX2, Cond.code yX2_countBefore cX2_countBefore 2 (some .int), Cond.fieldLink RX2 28 "DockyardSlots$Lane" "count" "I", Cond.fieldLink RX2 39 "DockyardSlots$Appointment" "place" "I", Cond.methodLink RX4 260 yX3_allowMove, Cond.instanceMethod yX3_allowMove, Cond.selects RX3 yX3_allowMove yX3_allowMove, Cond.initialized RX3, Cond.code yX3_allowMove cX3_allowMove 6 (some .boolean), Cond.methodLink RX3 24 yX3_laneAt, Cond.instanceMethod yX3_laneAt, Cond.selects RX3 yX3_laneAt yX3_laneAt, Cond.code yX3_laneAt cX3_laneAt 2 (some (.object "DockyardSlots$Lane")), Cond.fieldLink RX3 17 "DockyardSlots$LaneRow" "count" "I", Cond.fieldLink RX3 11 "DockyardSlots$LaneRow" "lanes" "[LDockyardSlots$Lane;", Cond.methodLink RX3 29 yX2_fromExit, Cond.instanceMethod yX2_fromExit, Cond.selects RX2 yX2_fromExit yX2_fromExit, Cond.code yX2_fromExit cX2_fromExit 2 (some (.object "DockyardSlots$Appointment")), Cond.fieldLink RX2 24 "DockyardSlots$Lane" "trailers" "[LDockyardSlots$Appointment;"]
def wsX4_isReachedWithin_r2 : List Cond := [Cond.methodLink RX3 33 yX2_canTake, Cond.instanceMethod yX2_canTake, Cond.selects RX2 yX2_canTake yX2_canTake, Cond.code yX2_canTake cX2_canTake 2 (some .boolean), Cond.fieldLink RX2 15 "DockyardSlots$Lane" "capacity" "I", Cond.fieldLink RX2 18 "DockyardSlots$Lane" "hasPower" "Z", Cond.fieldLink RX2 31 "DockyardSlots$Appointment" "kind" "C", Cond.methodLink RX4 264 yX3_moveNearest, Cond.instanceMethod yX3_moveNearest, Cond.selects RX3 yX3_moveNearest yX3_moveNearest, Cond.code yX3_moveNearest cX3_moveNearest 6 none, Cond.methodLink RX3 37 yX2_takeOut, Cond.instanceMethod yX2_takeOut, Cond.selects RX2 yX2_takeOut yX2_takeOut, Cond.code yX2_takeOut cX2_takeOut 2 (some (.object "DockyardSlots$Appointment")), Cond.fieldLink RX2 35 "DockyardSlots$Appointment" "lane" "LDockyardSlots$Lane;", Cond.methodLink RX2 42 yX2_fromExit, Cond.methodLink RX3 41 yX2_bringIn, Cond.instanceMethod yX2_bringIn, Cond.selects RX2 yX2_bringIn yX2_bringIn, Cond.code yX2_bringIn cX2_bringIn 2 none, Cond.methodLink RX4 213 yX4_isReachedWithin, Cond.static yX4_isReachedWithin, Cond.initialized RX4]
def wsX4_isReachedWithin : List Cond := .code yX4_isReachedWithin cX4_isReachedWithin 8 (some .boolean) :: ((wsX4_isReachedWithin_r1 ++ wsX4_isReachedWithin_r2) ++ wsX30 ++ wsX20 ++ wsX00)
def wsX4_fewestMoves_r1 : List Cond := [Cond.classLink RX4 120 "java/lang/UnsupportedOperationException", Cond.initialized "java/lang/UnsupportedOperationException", Cond.fieldLink RX4 10 "DockyardSlots" "lanes" "LDockyardSlots$LaneRow;", Cond.methodLink RX4 94 yX4_appointmentOrThrow, Cond.instanceMethod yX4_appointmentOrThrow, Cond.selects RX4 yX4_appointmentOrThrow yX4_appointmentOrThrow, Cond.initialized RX4, Cond.code yX4_appointmentOrThrow cX4_appointmentOrThrow 3 (some (.object "DockyardSlots$Appointment")), Cond.classLink RX4 142 "java/util/NoSuchElementException", Cond.initialized "java/util/NoSuchElementException", Cond.fieldLink RX4 86 "DockyardSlots" "appointmentCount" "I", Cond.fieldLink RX4 24 "DockyardSlots" "appointments" "[LDockyardSlots$Appointment;", Cond.methodLink RX4 202 yX4_homeOrThrow, Cond.static yX4_homeOrThrow, Cond.code yX4_homeOrThrow cX4_homeOrThrow 2 (some (.object "DockyardSlots$Lane")), Cond.classLink RX4 58 "java/lang/IllegalStateException", Cond.initialized "java/lang/IllegalStateException", Cond.fieldLink RX4 252 "DockyardSlots$Appointment" "lane" "LDockyardSlots$Lane;", Cond.methodLink RX4 213 yX4_isReachedWithin, Cond.static yX4_isReachedWithin, Cond.code yX4_isReachedWithin cX4_isReachedWithin 8 (some .boolean), Cond.fieldLink RX4 55 "DockyardSlots$LaneRow" "count" "I", Cond.methodLink RX4 205 yX2_countBefore, Cond.instanceMethod yX2_countBefore]
def wsX4_fewestMoves_r2 : List Cond := [Cond.selects RX2 yX2_countBefore yX2_countBefore, Cond.initialized RX2, Cond.code yX2_countBefore cX2_countBefore 2 (some .int), Cond.fieldLink RX2 28 "DockyardSlots$Lane" "count" "I", Cond.fieldLink RX2 39 "DockyardSlots$Appointment" "place" "I", Cond.methodLink RX4 260 yX3_allowMove, Cond.instanceMethod yX3_allowMove, Cond.selects RX3 yX3_allowMove yX3_allowMove, Cond.initialized RX3, Cond.code yX3_allowMove cX3_allowMove 6 (some .boolean), Cond.methodLink RX3 24 yX3_laneAt, Cond.instanceMethod yX3_laneAt, Cond.selects RX3 yX3_laneAt yX3_laneAt, Cond.code yX3_laneAt cX3_laneAt 2 (some (.object "DockyardSlots$Lane")), Cond.fieldLink RX3 17 "DockyardSlots$LaneRow" "count" "I", Cond.fieldLink RX3 11 "DockyardSlots$LaneRow" "lanes" "[LDockyardSlots$Lane;", Cond.methodLink RX3 29 yX2_fromExit, Cond.instanceMethod yX2_fromExit, Cond.selects RX2 yX2_fromExit yX2_fromExit, Cond.code yX2_fromExit cX2_fromExit 2 (some (.object "DockyardSlots$Appointment")), Cond.fieldLink RX2 24 "DockyardSlots$Lane" "trailers" "[LDockyardSlots$Appointment;", Cond.methodLink RX3 33 yX2_canTake, Cond.instanceMethod yX2_canTake, Cond.selects RX2 yX2_canTake yX2_canTake]
def wsX4_fewestMoves_r3 : List Cond := [Cond.code yX2_canTake cX2_canTake 2 (some .boolean), Cond.fieldLink RX2 15 "DockyardSlots$Lane" "capacity" "I", Cond.fieldLink RX2 18 "DockyardSlots$Lane" "hasPower" "Z", Cond.fieldLink RX2 31 "DockyardSlots$Appointment" "kind" "C", Cond.methodLink RX4 264 yX3_moveNearest, Cond.instanceMethod yX3_moveNearest, Cond.selects RX3 yX3_moveNearest yX3_moveNearest, Cond.code yX3_moveNearest cX3_moveNearest 6 none, Cond.methodLink RX3 37 yX2_takeOut, Cond.instanceMethod yX2_takeOut, Cond.selects RX2 yX2_takeOut yX2_takeOut, Cond.code yX2_takeOut cX2_takeOut 2 (some (.object "DockyardSlots$Appointment")), Cond.fieldLink RX2 35 "DockyardSlots$Appointment" "lane" "LDockyardSlots$Lane;", Cond.methodLink RX2 42 yX2_fromExit, Cond.methodLink RX3 41 yX2_bringIn, Cond.instanceMethod yX2_bringIn, Cond.selects RX2 yX2_bringIn yX2_bringIn, Cond.code yX2_bringIn cX2_bringIn 2 none]
def wsX4_fewestMoves : List Cond := .code yX4_fewestMoves cX4_fewestMoves 5 (some .int) :: ((wsX4_fewestMoves_r1 ++ (wsX4_fewestMoves_r2 ++ wsX4_fewestMoves_r3)) ++ wsX40 ++ wsX00 ++ wsX30 ++ wsX20 ++ (vx_atS RX4 124 "java/lang/UnsupportedOperationException" ["java/lang/RuntimeException", "java/lang/Exception"]).filter goodWord ++ (vx_atS RX4 146 "java/util/NoSuchElementException" ["java/lang/RuntimeException", "java/lang/Exception"]).filter goodWord ++ (vx_atS RX4 62 "java/lang/IllegalStateException" ["java/lang/RuntimeException", "java/lang/Exception"]).filter goodWord)
def wsX4_bestOfOrders_r1 : List Cond := [Cond.methodLink RX4 268 Lib.Math.min.name, Cond.static Lib.Math.min.name, Cond.initialized "java/lang/Math", Cond.code Lib.Math.min.name Lib.Math.min.code 2 (some .int), Cond.fieldLink RX4 55 "DockyardSlots$LaneRow" "count" "I", Cond.methodLink RX4 205 yX2_countBefore, Cond.instanceMethod yX2_countBefore, Cond.selects RX2 yX2_countBefore yX2_countBefore, Cond.initialized RX2, Cond.code yX2_countBefore cX2_countBefore 2 (some .int), Cond.fieldLink RX2 28 "DockyardSlots$Lane" "count" "I", Cond.fieldLink RX2 39 "DockyardSlots$Appointment" "place" "I", Cond.methodLink RX4 260 yX3_allowMove, Cond.instanceMethod yX3_allowMove, Cond.selects RX3 yX3_allowMove yX3_allowMove, Cond.initialized RX3, Cond.code yX3_allowMove cX3_allowMove 6 (some .boolean), Cond.methodLink RX3 24 yX3_laneAt, Cond.instanceMethod yX3_laneAt, Cond.selects RX3 yX3_laneAt yX3_laneAt, Cond.code yX3_laneAt cX3_laneAt 2 (some (.object "DockyardSlots$Lane")), Cond.fieldLink RX3 17 "DockyardSlots$LaneRow" "count" "I", Cond.fieldLink RX3 11 "DockyardSlots$LaneRow" "lanes" "[LDockyardSlots$Lane;", Cond.methodLink RX3 29 yX2_fromExit]
def wsX4_bestOfOrders_r2 : List Cond := [Cond.instanceMethod yX2_fromExit, Cond.selects RX2 yX2_fromExit yX2_fromExit, Cond.code yX2_fromExit cX2_fromExit 2 (some (.object "DockyardSlots$Appointment")), Cond.fieldLink RX2 24 "DockyardSlots$Lane" "trailers" "[LDockyardSlots$Appointment;", Cond.methodLink RX3 33 yX2_canTake, Cond.instanceMethod yX2_canTake, Cond.selects RX2 yX2_canTake yX2_canTake, Cond.code yX2_canTake cX2_canTake 2 (some .boolean), Cond.fieldLink RX2 15 "DockyardSlots$Lane" "capacity" "I", Cond.fieldLink RX2 18 "DockyardSlots$Lane" "hasPower" "Z", Cond.fieldLink RX2 31 "DockyardSlots$Appointment" "kind" "C", Cond.methodLink RX4 264 yX3_moveNearest, Cond.instanceMethod yX3_moveNearest, Cond.selects RX3 yX3_moveNearest yX3_moveNearest, Cond.code yX3_moveNearest cX3_moveNearest 6 none, Cond.methodLink RX3 37 yX2_takeOut, Cond.instanceMethod yX2_takeOut, Cond.selects RX2 yX2_takeOut yX2_takeOut, Cond.code yX2_takeOut cX2_takeOut 2 (some (.object "DockyardSlots$Appointment")), Cond.fieldLink RX2 35 "DockyardSlots$Appointment" "lane" "LDockyardSlots$Lane;", Cond.methodLink RX2 42 yX2_fromExit, Cond.methodLink RX3 41 yX2_bringIn, Cond.instanceMethod yX2_bringIn, Cond.selects RX2 yX2_bringIn yX2_bringIn]
def wsX4_bestOfOrders_r3 : List Cond := [Cond.code yX2_bringIn cX2_bringIn 2 none, Cond.methodLink RX4 219 yX4_bestOfOrders, Cond.static yX4_bestOfOrders, Cond.initialized RX4]
def wsX4_bestOfOrders : List Cond := .code yX4_bestOfOrders cX4_bestOfOrders 8 (some .int) :: ((wsX4_bestOfOrders_r1 ++ (wsX4_bestOfOrders_r2 ++ wsX4_bestOfOrders_r3)) ++ wsX30 ++ wsX20 ++ wsX00)
def wsX4_fewestByOrders_r1 : List Cond := [Cond.classLink RX4 120 "java/lang/UnsupportedOperationException", Cond.initialized "java/lang/UnsupportedOperationException", Cond.fieldLink RX4 10 "DockyardSlots" "lanes" "LDockyardSlots$LaneRow;", Cond.methodLink RX4 94 yX4_appointmentOrThrow, Cond.instanceMethod yX4_appointmentOrThrow, Cond.selects RX4 yX4_appointmentOrThrow yX4_appointmentOrThrow, Cond.initialized RX4, Cond.code yX4_appointmentOrThrow cX4_appointmentOrThrow 3 (some (.object "DockyardSlots$Appointment")), Cond.classLink RX4 142 "java/util/NoSuchElementException", Cond.initialized "java/util/NoSuchElementException", Cond.fieldLink RX4 86 "DockyardSlots" "appointmentCount" "I", Cond.fieldLink RX4 24 "DockyardSlots" "appointments" "[LDockyardSlots$Appointment;", Cond.methodLink RX4 202 yX4_homeOrThrow, Cond.static yX4_homeOrThrow, Cond.code yX4_homeOrThrow cX4_homeOrThrow 2 (some (.object "DockyardSlots$Lane")), Cond.classLink RX4 58 "java/lang/IllegalStateException", Cond.initialized "java/lang/IllegalStateException", Cond.fieldLink RX4 252 "DockyardSlots$Appointment" "lane" "LDockyardSlots$Lane;", Cond.methodLink RX4 219 yX4_bestOfOrders, Cond.static yX4_bestOfOrders, Cond.code yX4_bestOfOrders cX4_bestOfOrders 8 (some .int), Cond.methodLink RX4 268 Lib.Math.min.name, Cond.static Lib.Math.min.name, Cond.initialized "java/lang/Math"]
def wsX4_fewestByOrders_r2 : List Cond := [Cond.code Lib.Math.min.name Lib.Math.min.code 2 (some .int), Cond.fieldLink RX4 55 "DockyardSlots$LaneRow" "count" "I", Cond.methodLink RX4 205 yX2_countBefore, Cond.instanceMethod yX2_countBefore, Cond.selects RX2 yX2_countBefore yX2_countBefore, Cond.initialized RX2, Cond.code yX2_countBefore cX2_countBefore 2 (some .int), Cond.fieldLink RX2 28 "DockyardSlots$Lane" "count" "I", Cond.fieldLink RX2 39 "DockyardSlots$Appointment" "place" "I", Cond.methodLink RX4 260 yX3_allowMove, Cond.instanceMethod yX3_allowMove, Cond.selects RX3 yX3_allowMove yX3_allowMove, Cond.initialized RX3, Cond.code yX3_allowMove cX3_allowMove 6 (some .boolean), Cond.methodLink RX3 24 yX3_laneAt, Cond.instanceMethod yX3_laneAt, Cond.selects RX3 yX3_laneAt yX3_laneAt, Cond.code yX3_laneAt cX3_laneAt 2 (some (.object "DockyardSlots$Lane")), Cond.fieldLink RX3 17 "DockyardSlots$LaneRow" "count" "I", Cond.fieldLink RX3 11 "DockyardSlots$LaneRow" "lanes" "[LDockyardSlots$Lane;", Cond.methodLink RX3 29 yX2_fromExit, Cond.instanceMethod yX2_fromExit, Cond.selects RX2 yX2_fromExit yX2_fromExit, Cond.code yX2_fromExit cX2_fromExit 2 (some (.object "DockyardSlots$Appointment"))]
def wsX4_fewestByOrders_r3 : List Cond := [Cond.fieldLink RX2 24 "DockyardSlots$Lane" "trailers" "[LDockyardSlots$Appointment;", Cond.methodLink RX3 33 yX2_canTake, Cond.instanceMethod yX2_canTake, Cond.selects RX2 yX2_canTake yX2_canTake, Cond.code yX2_canTake cX2_canTake 2 (some .boolean), Cond.fieldLink RX2 15 "DockyardSlots$Lane" "capacity" "I", Cond.fieldLink RX2 18 "DockyardSlots$Lane" "hasPower" "Z", Cond.fieldLink RX2 31 "DockyardSlots$Appointment" "kind" "C", Cond.methodLink RX4 264 yX3_moveNearest, Cond.instanceMethod yX3_moveNearest, Cond.selects RX3 yX3_moveNearest yX3_moveNearest, Cond.code yX3_moveNearest cX3_moveNearest 6 none, Cond.methodLink RX3 37 yX2_takeOut, Cond.instanceMethod yX2_takeOut, Cond.selects RX2 yX2_takeOut yX2_takeOut, Cond.code yX2_takeOut cX2_takeOut 2 (some (.object "DockyardSlots$Appointment")), Cond.fieldLink RX2 35 "DockyardSlots$Appointment" "lane" "LDockyardSlots$Lane;", Cond.methodLink RX2 42 yX2_fromExit, Cond.methodLink RX3 41 yX2_bringIn, Cond.instanceMethod yX2_bringIn, Cond.selects RX2 yX2_bringIn yX2_bringIn, Cond.code yX2_bringIn cX2_bringIn 2 none]
def wsX4_fewestByOrders : List Cond := .code yX4_fewestByOrders cX4_fewestByOrders 5 (some .int) :: ((wsX4_fewestByOrders_r1 ++ (wsX4_fewestByOrders_r2 ++ wsX4_fewestByOrders_r3)) ++ wsX40 ++ wsX00 ++ wsX30 ++ wsX20 ++ (vx_atS RX4 124 "java/lang/UnsupportedOperationException" ["java/lang/RuntimeException", "java/lang/Exception"]).filter goodWord ++ (vx_atS RX4 146 "java/util/NoSuchElementException" ["java/lang/RuntimeException", "java/lang/Exception"]).filter goodWord ++ (vx_atS RX4 62 "java/lang/IllegalStateException" ["java/lang/RuntimeException", "java/lang/Exception"]).filter goodWord)
def wsX4_pass : List Cond := .code yX4_pass cX4_pass 5 (some .int) :: ([.classLink RX4 48 "java/lang/IllegalArgumentException", .initialized "java/lang/IllegalArgumentException", .fieldLink RX4 81 "DockyardSlots" "now" "I", .fieldLink RX4 86 "DockyardSlots" "appointmentCount" "I", .fieldLink RX4 24 "DockyardSlots" "appointments" "[LDockyardSlots$Appointment;", .fieldLink RX4 102 "DockyardSlots$Appointment" "state" "C", .fieldLink RX4 139 "DockyardSlots$Appointment" "hour" "I", .methodLink RX4 44 yX4_isOutside, .static yX4_isOutside, .initialized RX4, .code yX4_isOutside cX4_isOutside 3 (some .boolean)] ++ wsX40 ++ wsX00 ++ (vx_atS RX4 52 "java/lang/IllegalArgumentException" ["java/lang/RuntimeException", "java/lang/Exception"]).filter goodWord)
def wsX4_time : List Cond := .code yX4_time cX4_time 1 (some .int) :: ([.fieldLink RX4 81 "DockyardSlots" "now" "I"] ++ wsX40)
def wsX4_waited_r1 : List Cond := [Cond.methodLink RX4 136 yX4_arrivedOrThrow, Cond.instanceMethod yX4_arrivedOrThrow, Cond.selects RX4 yX4_arrivedOrThrow yX4_arrivedOrThrow, Cond.initialized RX4, Cond.code yX4_arrivedOrThrow cX4_arrivedOrThrow 3 (some (.object "DockyardSlots$Appointment")), Cond.classLink RX4 58 "java/lang/IllegalStateException", Cond.initialized "java/lang/IllegalStateException", Cond.methodLink RX4 94 yX4_appointmentOrThrow, Cond.instanceMethod yX4_appointmentOrThrow, Cond.selects RX4 yX4_appointmentOrThrow yX4_appointmentOrThrow, Cond.code yX4_appointmentOrThrow cX4_appointmentOrThrow 3 (some (.object "DockyardSlots$Appointment")), Cond.classLink RX4 142 "java/util/NoSuchElementException", Cond.initialized "java/util/NoSuchElementException", Cond.fieldLink RX4 86 "DockyardSlots" "appointmentCount" "I", Cond.fieldLink RX4 24 "DockyardSlots" "appointments" "[LDockyardSlots$Appointment;", Cond.methodLink RX4 237 yX0_hasArrived, Cond.instanceMethod yX0_hasArrived, Cond.selects RX0 yX0_hasArrived yX0_hasArrived, Cond.initialized RX0, Cond.code yX0_hasArrived cX0_hasArrived 1 (some .boolean), Cond.fieldLink RX0 25 "DockyardSlots$Appointment" "state" "C", Cond.methodLink RX4 225 yX4_waitingHours, Cond.instanceMethod yX4_waitingHours, Cond.selects RX4 yX4_waitingHours yX4_waitingHours]
def wsX4_waited_r2 : List Cond := [Cond.code yX4_waitingHours cX4_waitingHours 4 (some .int), Cond.fieldLink RX4 129 "DockyardSlots$Appointment" "arrivedAt" "I", Cond.fieldLink RX4 139 "DockyardSlots$Appointment" "hour" "I", Cond.methodLink RX4 274 Lib.Math.max.name, Cond.static Lib.Math.max.name, Cond.initialized "java/lang/Math", Cond.code Lib.Math.max.name Lib.Math.max.code 2 (some .int), Cond.fieldLink RX4 102 "DockyardSlots$Appointment" "state" "C", Cond.fieldLink RX4 81 "DockyardSlots" "now" "I", Cond.fieldLink RX4 184 "DockyardSlots$Appointment" "dockedAt" "I"]
def wsX4_waited : List Cond := .code yX4_waited cX4_waited 2 (some .int) :: ((wsX4_waited_r1 ++ wsX4_waited_r2) ++ wsX40 ++ wsX00 ++ (vx_atS RX4 62 "java/lang/IllegalStateException" ["java/lang/RuntimeException", "java/lang/Exception"]).filter goodWord ++ (vx_atS RX4 146 "java/util/NoSuchElementException" ["java/lang/RuntimeException", "java/lang/Exception"]).filter goodWord)
def wsX4_charge_r1 : List Cond := [Cond.methodLink RX4 136 yX4_arrivedOrThrow, Cond.instanceMethod yX4_arrivedOrThrow, Cond.selects RX4 yX4_arrivedOrThrow yX4_arrivedOrThrow, Cond.initialized RX4, Cond.code yX4_arrivedOrThrow cX4_arrivedOrThrow 3 (some (.object "DockyardSlots$Appointment")), Cond.classLink RX4 58 "java/lang/IllegalStateException", Cond.initialized "java/lang/IllegalStateException", Cond.methodLink RX4 94 yX4_appointmentOrThrow, Cond.instanceMethod yX4_appointmentOrThrow, Cond.selects RX4 yX4_appointmentOrThrow yX4_appointmentOrThrow, Cond.code yX4_appointmentOrThrow cX4_appointmentOrThrow 3 (some (.object "DockyardSlots$Appointment")), Cond.classLink RX4 142 "java/util/NoSuchElementException", Cond.initialized "java/util/NoSuchElementException", Cond.fieldLink RX4 86 "DockyardSlots" "appointmentCount" "I", Cond.fieldLink RX4 24 "DockyardSlots" "appointments" "[LDockyardSlots$Appointment;", Cond.methodLink RX4 237 yX0_hasArrived, Cond.instanceMethod yX0_hasArrived, Cond.selects RX0 yX0_hasArrived yX0_hasArrived, Cond.initialized RX0, Cond.code yX0_hasArrived cX0_hasArrived 1 (some .boolean), Cond.fieldLink RX0 25 "DockyardSlots$Appointment" "state" "C", Cond.methodLink RX4 194 yX4_chargeInSteps, Cond.instanceMethod yX4_chargeInSteps, Cond.selects RX4 yX4_chargeInSteps yX4_chargeInSteps]
def wsX4_charge_r2 : List Cond := [Cond.code yX4_chargeInSteps cX4_chargeInSteps 4 (some .int), Cond.fieldLink RX4 32 "DockyardSlots" "freeHours" "I", Cond.methodLink RX4 274 Lib.Math.max.name, Cond.static Lib.Math.max.name, Cond.initialized "java/lang/Math", Cond.code Lib.Math.max.name Lib.Math.max.code 2 (some .int), Cond.fieldLink RX4 38 "DockyardSlots" "firstHours" "I", Cond.methodLink RX4 268 Lib.Math.min.name, Cond.static Lib.Math.min.name, Cond.code Lib.Math.min.name Lib.Math.min.code 2 (some .int), Cond.fieldLink RX4 35 "DockyardSlots" "firstRate" "I", Cond.fieldLink RX4 41 "DockyardSlots" "secondRate" "I", Cond.methodLink RX4 132 yX4_punctualityOf, Cond.instanceMethod yX4_punctualityOf, Cond.selects RX4 yX4_punctualityOf yX4_punctualityOf, Cond.code yX4_punctualityOf cX4_punctualityOf 3 (some .char), Cond.fieldLink RX4 129 "DockyardSlots$Appointment" "arrivedAt" "I", Cond.fieldLink RX4 139 "DockyardSlots$Appointment" "hour" "I", Cond.fieldLink RX4 28 "DockyardSlots" "tolerance" "I", Cond.methodLink RX4 225 yX4_waitingHours, Cond.instanceMethod yX4_waitingHours, Cond.selects RX4 yX4_waitingHours yX4_waitingHours, Cond.code yX4_waitingHours cX4_waitingHours 4 (some .int), Cond.fieldLink RX4 102 "DockyardSlots$Appointment" "state" "C"]
def wsX4_charge_r3 : List Cond := [Cond.fieldLink RX4 81 "DockyardSlots" "now" "I", Cond.fieldLink RX4 184 "DockyardSlots$Appointment" "dockedAt" "I"]
def wsX4_charge : List Cond := .code yX4_charge cX4_charge 2 (some .int) :: ((wsX4_charge_r1 ++ (wsX4_charge_r2 ++ wsX4_charge_r3)) ++ wsX40 ++ wsX00 ++ (vx_atS RX4 62 "java/lang/IllegalStateException" ["java/lang/RuntimeException", "java/lang/Exception"]).filter goodWord ++ (vx_atS RX4 146 "java/util/NoSuchElementException" ["java/lang/RuntimeException", "java/lang/Exception"]).filter goodWord)
def wsX4_rateOfHour : List Cond := .code yX4_rateOfHour cX4_rateOfHour 2 (some .int) :: ([.fieldLink RX4 32 "DockyardSlots" "freeHours" "I", .fieldLink RX4 38 "DockyardSlots" "firstHours" "I", .fieldLink RX4 35 "DockyardSlots" "firstRate" "I", .fieldLink RX4 41 "DockyardSlots" "secondRate" "I"] ++ wsX40)
def wsX4_chargeByHours_r1 : List Cond := [Cond.methodLink RX4 136 yX4_arrivedOrThrow, Cond.instanceMethod yX4_arrivedOrThrow, Cond.selects RX4 yX4_arrivedOrThrow yX4_arrivedOrThrow, Cond.initialized RX4, Cond.code yX4_arrivedOrThrow cX4_arrivedOrThrow 3 (some (.object "DockyardSlots$Appointment")), Cond.classLink RX4 58 "java/lang/IllegalStateException", Cond.initialized "java/lang/IllegalStateException", Cond.methodLink RX4 94 yX4_appointmentOrThrow, Cond.instanceMethod yX4_appointmentOrThrow, Cond.selects RX4 yX4_appointmentOrThrow yX4_appointmentOrThrow, Cond.code yX4_appointmentOrThrow cX4_appointmentOrThrow 3 (some (.object "DockyardSlots$Appointment")), Cond.classLink RX4 142 "java/util/NoSuchElementException", Cond.initialized "java/util/NoSuchElementException", Cond.fieldLink RX4 86 "DockyardSlots" "appointmentCount" "I", Cond.fieldLink RX4 24 "DockyardSlots" "appointments" "[LDockyardSlots$Appointment;", Cond.methodLink RX4 237 yX0_hasArrived, Cond.instanceMethod yX0_hasArrived, Cond.selects RX0 yX0_hasArrived yX0_hasArrived, Cond.initialized RX0, Cond.code yX0_hasArrived cX0_hasArrived 1 (some .boolean), Cond.fieldLink RX0 25 "DockyardSlots$Appointment" "state" "C", Cond.methodLink RX4 132 yX4_punctualityOf, Cond.instanceMethod yX4_punctualityOf, Cond.selects RX4 yX4_punctualityOf yX4_punctualityOf]
def wsX4_chargeByHours_r2 : List Cond := [Cond.code yX4_punctualityOf cX4_punctualityOf 3 (some .char), Cond.fieldLink RX4 129 "DockyardSlots$Appointment" "arrivedAt" "I", Cond.fieldLink RX4 139 "DockyardSlots$Appointment" "hour" "I", Cond.fieldLink RX4 28 "DockyardSlots" "tolerance" "I", Cond.methodLink RX4 225 yX4_waitingHours, Cond.instanceMethod yX4_waitingHours, Cond.selects RX4 yX4_waitingHours yX4_waitingHours, Cond.code yX4_waitingHours cX4_waitingHours 4 (some .int), Cond.methodLink RX4 274 Lib.Math.max.name, Cond.static Lib.Math.max.name, Cond.initialized "java/lang/Math", Cond.code Lib.Math.max.name Lib.Math.max.code 2 (some .int), Cond.fieldLink RX4 102 "DockyardSlots$Appointment" "state" "C", Cond.fieldLink RX4 81 "DockyardSlots" "now" "I", Cond.fieldLink RX4 184 "DockyardSlots$Appointment" "dockedAt" "I", Cond.methodLink RX4 228 yX4_rateOfHour, Cond.instanceMethod yX4_rateOfHour, Cond.selects RX4 yX4_rateOfHour yX4_rateOfHour, Cond.code yX4_rateOfHour cX4_rateOfHour 2 (some .int), Cond.fieldLink RX4 32 "DockyardSlots" "freeHours" "I", Cond.fieldLink RX4 38 "DockyardSlots" "firstHours" "I", Cond.fieldLink RX4 35 "DockyardSlots" "firstRate" "I", Cond.fieldLink RX4 41 "DockyardSlots" "secondRate" "I"]
def wsX4_chargeByHours : List Cond := .code yX4_chargeByHours cX4_chargeByHours 6 (some .int) :: ((wsX4_chargeByHours_r1 ++ wsX4_chargeByHours_r2) ++ wsX40 ++ wsX00 ++ (vx_atS RX4 62 "java/lang/IllegalStateException" ["java/lang/RuntimeException", "java/lang/Exception"]).filter goodWord ++ (vx_atS RX4 146 "java/util/NoSuchElementException" ["java/lang/RuntimeException", "java/lang/Exception"]).filter goodWord)
def wsX4_moves : List Cond := .code yX4_moves cX4_moves 1 (some .int) :: ([.fieldLink RX4 161 "DockyardSlots" "moveCount" "I"] ++ wsX40)
def wsX4_charged : List Cond := .code yX4_charged cX4_charged 1 (some .long) :: ([.fieldLink RX4 198 "DockyardSlots" "chargedSum" "J"] ++ wsX40)
def wsX4_usedShare : List Cond := .code yX4_usedShare cX4_usedShare 4 (some .float) :: ([.classLink RX4 232 "java/lang/ArithmeticException", .initialized "java/lang/ArithmeticException", .fieldLink RX4 69 "DockyardSlots" "doorCount" "I", .fieldLink RX4 176 "DockyardSlots$Door" "isUsed" "Z", .methodLink RX4 164 yX4_doorAt, .instanceMethod yX4_doorAt, .selects RX4 yX4_doorAt yX4_doorAt, .initialized RX4, .code yX4_doorAt cX4_doorAt 2 (some (.object "DockyardSlots$Door")), .fieldLink RX4 18 "DockyardSlots" "doors" "[LDockyardSlots$Door;"] ++ wsX40 ++ wsX10 ++ (vx_atS RX4 236 "java/lang/ArithmeticException" ["java/lang/RuntimeException", "java/lang/Exception"]).filter goodWord)
def wsX4_meanWaiting : List Cond := .code yX4_meanWaiting cX4_meanWaiting 5 (some .double) :: ([.classLink RX4 232 "java/lang/ArithmeticException", .initialized "java/lang/ArithmeticException", .fieldLink RX4 86 "DockyardSlots" "appointmentCount" "I", .fieldLink RX4 24 "DockyardSlots" "appointments" "[LDockyardSlots$Appointment;", .methodLink RX4 237 yX0_hasArrived, .instanceMethod yX0_hasArrived, .selects RX0 yX0_hasArrived yX0_hasArrived, .initialized RX0, .code yX0_hasArrived cX0_hasArrived 1 (some .boolean), .fieldLink RX0 25 "DockyardSlots$Appointment" "state" "C", .methodLink RX4 225 yX4_waitingHours, .instanceMethod yX4_waitingHours, .selects RX4 yX4_waitingHours yX4_waitingHours, .initialized RX4, .code yX4_waitingHours cX4_waitingHours 4 (some .int), .fieldLink RX4 129 "DockyardSlots$Appointment" "arrivedAt" "I", .fieldLink RX4 139 "DockyardSlots$Appointment" "hour" "I", .methodLink RX4 274 Lib.Math.max.name, .static Lib.Math.max.name, .initialized "java/lang/Math", .code Lib.Math.max.name Lib.Math.max.code 2 (some .int), .fieldLink RX4 102 "DockyardSlots$Appointment" "state" "C", .fieldLink RX4 81 "DockyardSlots" "now" "I", .fieldLink RX4 184 "DockyardSlots$Appointment" "dockedAt" "I"] ++ wsX40 ++ wsX00 ++ (vx_atS RX4 236 "java/lang/ArithmeticException" ["java/lang/RuntimeException", "java/lang/Exception"]).filter goodWord)
def wsX5_init : List Cond := .code yX5_init cX5_init 1 none :: ([.methodLink RX5 1 objectInit, .instanceMethod objectInit, .code objectInit ⟨#[0xb1]⟩ 1 none, .arrayClass .int, .fieldLink RX5 7 "DockyardSlotsModel" "capacities" "[I", .arrayClass .boolean, .fieldLink RX5 13 "DockyardSlotsModel" "havePower" "[Z", .fieldLink RX5 17 "DockyardSlotsModel" "counts" "[I", .fieldLink RX5 20 "DockyardSlotsModel" "slots" "[I", .arrayClass .char, .fieldLink RX5 23 "DockyardSlotsModel" "doorKinds" "[C", .fieldLink RX5 27 "DockyardSlotsModel" "atDoors" "[I", .fieldLink RX5 30 "DockyardSlotsModel" "hours" "[I", .fieldLink RX5 33 "DockyardSlotsModel" "kinds" "[C", .fieldLink RX5 36 "DockyardSlotsModel" "works" "[I", .fieldLink RX5 39 "DockyardSlotsModel" "states" "[C", .fieldLink RX5 42 "DockyardSlotsModel" "arrivals" "[I", .fieldLink RX5 45 "DockyardSlotsModel" "docked" "[I", .fieldLink RX5 48 "DockyardSlotsModel" "places" "[I", .fieldLink RX5 51 "DockyardSlotsModel" "tolerance" "I", .fieldLink RX5 55 "DockyardSlotsModel" "free" "I", .fieldLink RX5 58 "DockyardSlotsModel" "rate" "I", .fieldLink RX5 61 "DockyardSlotsModel" "paidHours" "I", .fieldLink RX5 64 "DockyardSlotsModel" "laterRate" "I"] ++ wsX50)
def wsX5_thrown : List Cond := .code yX5_thrown cX5_thrown 1 (some .int) :: ([.fieldLink RX5 67 "DockyardSlotsModel" "code" "I"] ++ wsX50)
def wsX5_fails : List Cond := .code yX5_fails cX5_fails 2 (some .boolean) :: ([.fieldLink RX5 67 "DockyardSlotsModel" "code" "I"] ++ wsX50)
def wsX5_tells : List Cond := .code yX5_tells cX5_tells 2 (some .int) :: ([.fieldLink RX5 67 "DockyardSlotsModel" "code" "I"] ++ wsX50)
def wsX5_in : List Cond := .code yX5_in cX5_in 3 (some .boolean) :: ([])
def wsX5_isNoLane : List Cond := .code yX5_isNoLane cX5_isNoLane 2 (some .boolean) :: ([.fieldLink RX5 70 "DockyardSlotsModel" "lanes" "I", .methodLink RX5 73 yX5_in, .static yX5_in, .initialized RX5, .code yX5_in cX5_in 3 (some .boolean)] ++ wsX50)
def wsX5_isNone : List Cond := .code yX5_isNone cX5_isNone 2 (some .boolean) :: ([.fieldLink RX5 77 "DockyardSlotsModel" "booked" "I", .methodLink RX5 73 yX5_in, .static yX5_in, .initialized RX5, .code yX5_in cX5_in 3 (some .boolean)] ++ wsX50)
def wsX5_addLane : List Cond := .code yX5_addLane cX5_addLane 3 (some .int) :: ([.fieldLink RX5 70 "DockyardSlotsModel" "lanes" "I", .fieldLink RX5 7 "DockyardSlotsModel" "capacities" "[I", .fieldLink RX5 13 "DockyardSlotsModel" "havePower" "[Z", .methodLink RX5 73 yX5_in, .static yX5_in, .initialized RX5, .code yX5_in cX5_in 3 (some .boolean), .methodLink RX5 80 yX5_fails, .instanceMethod yX5_fails, .selects RX5 yX5_fails yX5_fails, .code yX5_fails cX5_fails 2 (some .boolean), .fieldLink RX5 67 "DockyardSlotsModel" "code" "I"] ++ wsX50 ++ (vx_atM "java/lang/ArrayIndexOutOfBoundsException" ["java/lang/IndexOutOfBoundsException", "java/lang/RuntimeException", "java/lang/Exception"]).filter goodWord)
def wsX5_addDoor : List Cond := .code yX5_addDoor cX5_addDoor 2 (some .int) :: ([.fieldLink RX5 84 "DockyardSlotsModel" "doors" "I", .fieldLink RX5 23 "DockyardSlotsModel" "doorKinds" "[C", .fieldLink RX5 27 "DockyardSlotsModel" "atDoors" "[I", .methodLink RX5 80 yX5_fails, .instanceMethod yX5_fails, .selects RX5 yX5_fails yX5_fails, .initialized RX5, .code yX5_fails cX5_fails 2 (some .boolean), .fieldLink RX5 67 "DockyardSlotsModel" "code" "I"] ++ wsX50 ++ (vx_atM "java/lang/ArrayIndexOutOfBoundsException" ["java/lang/IndexOutOfBoundsException", "java/lang/RuntimeException", "java/lang/Exception"]).filter goodWord)
def wsX5_setTolerance : List Cond := .code yX5_setTolerance cX5_setTolerance 3 (some .int) :: ([.fieldLink RX5 51 "DockyardSlotsModel" "tolerance" "I", .methodLink RX5 73 yX5_in, .static yX5_in, .initialized RX5, .code yX5_in cX5_in 3 (some .boolean), .methodLink RX5 80 yX5_fails, .instanceMethod yX5_fails, .selects RX5 yX5_fails yX5_fails, .code yX5_fails cX5_fails 2 (some .boolean), .fieldLink RX5 67 "DockyardSlotsModel" "code" "I"] ++ wsX50)
def wsX5_setCharges : List Cond := .code yX5_setCharges cX5_setCharges 6 (some .int) :: ([.fieldLink RX5 55 "DockyardSlotsModel" "free" "I", .fieldLink RX5 58 "DockyardSlotsModel" "rate" "I", .fieldLink RX5 61 "DockyardSlotsModel" "paidHours" "I", .fieldLink RX5 64 "DockyardSlotsModel" "laterRate" "I", .methodLink RX5 73 yX5_in, .static yX5_in, .initialized RX5, .code yX5_in cX5_in 3 (some .boolean), .methodLink RX5 80 yX5_fails, .instanceMethod yX5_fails, .selects RX5 yX5_fails yX5_fails, .code yX5_fails cX5_fails 2 (some .boolean), .fieldLink RX5 67 "DockyardSlotsModel" "code" "I"] ++ wsX50)
def wsX5_book : List Cond := .code yX5_book cX5_book 4 (some .int) :: ([.fieldLink RX5 87 "DockyardSlotsModel" "time" "I", .fieldLink RX5 77 "DockyardSlotsModel" "booked" "I", .fieldLink RX5 30 "DockyardSlotsModel" "hours" "[I", .fieldLink RX5 33 "DockyardSlotsModel" "kinds" "[C", .fieldLink RX5 36 "DockyardSlotsModel" "works" "[I", .fieldLink RX5 39 "DockyardSlotsModel" "states" "[C", .methodLink RX5 73 yX5_in, .static yX5_in, .initialized RX5, .code yX5_in cX5_in 3 (some .boolean), .methodLink RX5 80 yX5_fails, .instanceMethod yX5_fails, .selects RX5 yX5_fails yX5_fails, .code yX5_fails cX5_fails 2 (some .boolean), .fieldLink RX5 67 "DockyardSlotsModel" "code" "I"] ++ wsX50 ++ (vx_atM "java/lang/ArrayIndexOutOfBoundsException" ["java/lang/IndexOutOfBoundsException", "java/lang/RuntimeException", "java/lang/Exception"]).filter goodWord)
def wsX5_canCome : List Cond := .code yX5_canCome cX5_canCome 3 (some .boolean) :: ([.fieldLink RX5 17 "DockyardSlotsModel" "counts" "[I", .fieldLink RX5 7 "DockyardSlotsModel" "capacities" "[I", .fieldLink RX5 33 "DockyardSlotsModel" "kinds" "[C", .fieldLink RX5 13 "DockyardSlotsModel" "havePower" "[Z"] ++ wsX50 ++ (vx_atM "java/lang/ArrayIndexOutOfBoundsException" ["java/lang/IndexOutOfBoundsException", "java/lang/RuntimeException", "java/lang/Exception"]).filter goodWord)
def wsX5_comes : List Cond := .code yX5_comes cX5_comes 3 none :: ([.fieldLink RX5 20 "DockyardSlotsModel" "slots" "[I", .fieldLink RX5 17 "DockyardSlotsModel" "counts" "[I"] ++ wsX50 ++ (vx_atM "java/lang/ArrayIndexOutOfBoundsException" ["java/lang/IndexOutOfBoundsException", "java/lang/RuntimeException", "java/lang/Exception"]).filter goodWord)
def wsX5_inLanes : List Cond := .code yX5_inLanes cX5_inLanes 3 (some .int) :: ([.fieldLink RX5 70 "DockyardSlotsModel" "lanes" "I", .fieldLink RX5 17 "DockyardSlotsModel" "counts" "[I"] ++ wsX50 ++ (vx_atM "java/lang/ArrayIndexOutOfBoundsException" ["java/lang/IndexOutOfBoundsException", "java/lang/RuntimeException", "java/lang/Exception"]).filter goodWord)
def wsX5_punctual : List Cond := .code yX5_punctual cX5_punctual 2 (some .char) :: ([.fieldLink RX5 42 "DockyardSlotsModel" "arrivals" "[I", .fieldLink RX5 30 "DockyardSlotsModel" "hours" "[I", .fieldLink RX5 51 "DockyardSlotsModel" "tolerance" "I"] ++ wsX50 ++ (vx_atM "java/lang/ArrayIndexOutOfBoundsException" ["java/lang/IndexOutOfBoundsException", "java/lang/RuntimeException", "java/lang/Exception"]).filter goodWord)
def wsX5_arrive_r1 : List Cond := [Cond.fieldLink RX5 39 "DockyardSlotsModel" "states" "[C", Cond.fieldLink RX5 42 "DockyardSlotsModel" "arrivals" "[I", Cond.fieldLink RX5 87 "DockyardSlotsModel" "time" "I", Cond.methodLink RX5 90 yX5_isNone, Cond.instanceMethod yX5_isNone, Cond.selects RX5 yX5_isNone yX5_isNone, Cond.initialized RX5, Cond.code yX5_isNone cX5_isNone 2 (some .boolean), Cond.fieldLink RX5 77 "DockyardSlotsModel" "booked" "I", Cond.methodLink RX5 73 yX5_in, Cond.static yX5_in, Cond.code yX5_in cX5_in 3 (some .boolean), Cond.methodLink RX5 93 yX5_isNoLane, Cond.instanceMethod yX5_isNoLane, Cond.selects RX5 yX5_isNoLane yX5_isNoLane, Cond.code yX5_isNoLane cX5_isNoLane 2 (some .boolean), Cond.fieldLink RX5 70 "DockyardSlotsModel" "lanes" "I", Cond.methodLink RX5 96 yX5_inLanes, Cond.instanceMethod yX5_inLanes, Cond.selects RX5 yX5_inLanes yX5_inLanes, Cond.code yX5_inLanes cX5_inLanes 3 (some .int), Cond.fieldLink RX5 17 "DockyardSlotsModel" "counts" "[I", Cond.methodLink RX5 100 yX5_canCome, Cond.instanceMethod yX5_canCome]
def wsX5_arrive_r2 : List Cond := [Cond.selects RX5 yX5_canCome yX5_canCome, Cond.code yX5_canCome cX5_canCome 3 (some .boolean), Cond.fieldLink RX5 7 "DockyardSlotsModel" "capacities" "[I", Cond.fieldLink RX5 33 "DockyardSlotsModel" "kinds" "[C", Cond.fieldLink RX5 13 "DockyardSlotsModel" "havePower" "[Z", Cond.methodLink RX5 80 yX5_fails, Cond.instanceMethod yX5_fails, Cond.selects RX5 yX5_fails yX5_fails, Cond.code yX5_fails cX5_fails 2 (some .boolean), Cond.fieldLink RX5 67 "DockyardSlotsModel" "code" "I", Cond.methodLink RX5 104 yX5_comes, Cond.instanceMethod yX5_comes, Cond.selects RX5 yX5_comes yX5_comes, Cond.code yX5_comes cX5_comes 3 none, Cond.fieldLink RX5 20 "DockyardSlotsModel" "slots" "[I", Cond.methodLink RX5 108 yX5_punctual, Cond.instanceMethod yX5_punctual, Cond.selects RX5 yX5_punctual yX5_punctual, Cond.code yX5_punctual cX5_punctual 2 (some .char), Cond.fieldLink RX5 30 "DockyardSlotsModel" "hours" "[I", Cond.fieldLink RX5 51 "DockyardSlotsModel" "tolerance" "I"]
def wsX5_arrive : List Cond := .code yX5_arrive cX5_arrive 3 (some .char) :: ((wsX5_arrive_r1 ++ wsX5_arrive_r2) ++ wsX50 ++ (vx_atM "java/lang/ArrayIndexOutOfBoundsException" ["java/lang/IndexOutOfBoundsException", "java/lang/RuntimeException", "java/lang/Exception"]).filter goodWord)
def wsX5_state : List Cond := .code yX5_state cX5_state 2 (some .char) :: ([.fieldLink RX5 39 "DockyardSlotsModel" "states" "[C", .methodLink RX5 90 yX5_isNone, .instanceMethod yX5_isNone, .selects RX5 yX5_isNone yX5_isNone, .initialized RX5, .code yX5_isNone cX5_isNone 2 (some .boolean), .fieldLink RX5 77 "DockyardSlotsModel" "booked" "I", .methodLink RX5 73 yX5_in, .static yX5_in, .code yX5_in cX5_in 3 (some .boolean), .methodLink RX5 80 yX5_fails, .instanceMethod yX5_fails, .selects RX5 yX5_fails yX5_fails, .code yX5_fails cX5_fails 2 (some .boolean), .fieldLink RX5 67 "DockyardSlotsModel" "code" "I"] ++ wsX50 ++ (vx_atM "java/lang/ArrayIndexOutOfBoundsException" ["java/lang/IndexOutOfBoundsException", "java/lang/RuntimeException", "java/lang/Exception"]).filter goodWord)
def wsX5_hasNotCome : List Cond := .code yX5_hasNotCome cX5_hasNotCome 2 (some .boolean) :: ([.fieldLink RX5 39 "DockyardSlotsModel" "states" "[C", .methodLink RX5 90 yX5_isNone, .instanceMethod yX5_isNone, .selects RX5 yX5_isNone yX5_isNone, .initialized RX5, .code yX5_isNone cX5_isNone 2 (some .boolean), .fieldLink RX5 77 "DockyardSlotsModel" "booked" "I", .methodLink RX5 73 yX5_in, .static yX5_in, .code yX5_in cX5_in 3 (some .boolean), .methodLink RX5 80 yX5_fails, .instanceMethod yX5_fails, .selects RX5 yX5_fails yX5_fails, .code yX5_fails cX5_fails 2 (some .boolean), .fieldLink RX5 67 "DockyardSlotsModel" "code" "I"] ++ wsX50 ++ (vx_atM "java/lang/ArrayIndexOutOfBoundsException" ["java/lang/IndexOutOfBoundsException", "java/lang/RuntimeException", "java/lang/Exception"]).filter goodWord)
def wsX5_punctuality_r1 : List Cond := [Cond.methodLink RX5 112 yX5_hasNotCome, Cond.instanceMethod yX5_hasNotCome, Cond.selects RX5 yX5_hasNotCome yX5_hasNotCome, Cond.initialized RX5, Cond.code yX5_hasNotCome cX5_hasNotCome 2 (some .boolean), Cond.fieldLink RX5 39 "DockyardSlotsModel" "states" "[C", Cond.methodLink RX5 90 yX5_isNone, Cond.instanceMethod yX5_isNone, Cond.selects RX5 yX5_isNone yX5_isNone, Cond.code yX5_isNone cX5_isNone 2 (some .boolean), Cond.fieldLink RX5 77 "DockyardSlotsModel" "booked" "I", Cond.methodLink RX5 73 yX5_in, Cond.static yX5_in, Cond.code yX5_in cX5_in 3 (some .boolean), Cond.methodLink RX5 80 yX5_fails, Cond.instanceMethod yX5_fails, Cond.selects RX5 yX5_fails yX5_fails, Cond.code yX5_fails cX5_fails 2 (some .boolean), Cond.fieldLink RX5 67 "DockyardSlotsModel" "code" "I", Cond.methodLink RX5 108 yX5_punctual, Cond.instanceMethod yX5_punctual, Cond.selects RX5 yX5_punctual yX5_punctual, Cond.code yX5_punctual cX5_punctual 2 (some .char), Cond.fieldLink RX5 42 "DockyardSlotsModel" "arrivals" "[I"]
def wsX5_punctuality_r2 : List Cond := [Cond.fieldLink RX5 30 "DockyardSlotsModel" "hours" "[I", Cond.fieldLink RX5 51 "DockyardSlotsModel" "tolerance" "I"]
def wsX5_punctuality : List Cond := .code yX5_punctuality cX5_punctuality 2 (some .char) :: ((wsX5_punctuality_r1 ++ wsX5_punctuality_r2) ++ wsX50 ++ (vx_atM "java/lang/ArrayIndexOutOfBoundsException" ["java/lang/IndexOutOfBoundsException", "java/lang/RuntimeException", "java/lang/Exception"]).filter goodWord)
def wsX5_nextBooked : List Cond := .code yX5_nextBooked cX5_nextBooked 3 (some .int) :: ([.fieldLink RX5 77 "DockyardSlotsModel" "booked" "I", .fieldLink RX5 39 "DockyardSlotsModel" "states" "[C", .fieldLink RX5 30 "DockyardSlotsModel" "hours" "[I", .methodLink RX5 80 yX5_fails, .instanceMethod yX5_fails, .selects RX5 yX5_fails yX5_fails, .initialized RX5, .code yX5_fails cX5_fails 2 (some .boolean), .fieldLink RX5 67 "DockyardSlotsModel" "code" "I"] ++ wsX50 ++ (vx_atM "java/lang/ArrayIndexOutOfBoundsException" ["java/lang/IndexOutOfBoundsException", "java/lang/RuntimeException", "java/lang/Exception"]).filter goodWord)
def wsX5_slotOf : List Cond := .code yX5_slotOf cX5_slotOf 4 (some .int) :: ([.fieldLink RX5 70 "DockyardSlotsModel" "lanes" "I", .fieldLink RX5 17 "DockyardSlotsModel" "counts" "[I", .fieldLink RX5 20 "DockyardSlotsModel" "slots" "[I"] ++ wsX50 ++ (vx_atM "java/lang/ArrayIndexOutOfBoundsException" ["java/lang/IndexOutOfBoundsException", "java/lang/RuntimeException", "java/lang/Exception"]).filter goodWord)
def wsX5_ahead : List Cond := .code yX5_ahead cX5_ahead 3 (some .int) :: ([.fieldLink RX5 17 "DockyardSlotsModel" "counts" "[I", .methodLink RX5 115 yX5_slotOf, .instanceMethod yX5_slotOf, .selects RX5 yX5_slotOf yX5_slotOf, .initialized RX5, .code yX5_slotOf cX5_slotOf 4 (some .int), .fieldLink RX5 70 "DockyardSlotsModel" "lanes" "I", .fieldLink RX5 20 "DockyardSlotsModel" "slots" "[I"] ++ wsX50 ++ (vx_atM "java/lang/ArrayIndexOutOfBoundsException" ["java/lang/IndexOutOfBoundsException", "java/lang/RuntimeException", "java/lang/Exception"]).filter goodWord)
def wsX5_isReached : List Cond := .code yX5_isReached cX5_isReached 2 (some .boolean) :: ([.methodLink RX5 115 yX5_slotOf, .instanceMethod yX5_slotOf, .selects RX5 yX5_slotOf yX5_slotOf, .initialized RX5, .code yX5_slotOf cX5_slotOf 4 (some .int), .fieldLink RX5 70 "DockyardSlotsModel" "lanes" "I", .fieldLink RX5 17 "DockyardSlotsModel" "counts" "[I", .fieldLink RX5 20 "DockyardSlotsModel" "slots" "[I", .methodLink RX5 119 yX5_ahead, .instanceMethod yX5_ahead, .selects RX5 yX5_ahead yX5_ahead, .code yX5_ahead cX5_ahead 3 (some .int)] ++ wsX50 ++ (vx_atM "java/lang/ArrayIndexOutOfBoundsException" ["java/lang/IndexOutOfBoundsException", "java/lang/RuntimeException", "java/lang/Exception"]).filter goodWord)
def wsX5_shift_r1 : List Cond := [Cond.fieldLink RX5 17 "DockyardSlotsModel" "counts" "[I", Cond.fieldLink RX5 125 "DockyardSlotsModel" "moves" "I", Cond.methodLink RX5 90 yX5_isNone, Cond.instanceMethod yX5_isNone, Cond.selects RX5 yX5_isNone yX5_isNone, Cond.initialized RX5, Cond.code yX5_isNone cX5_isNone 2 (some .boolean), Cond.fieldLink RX5 77 "DockyardSlotsModel" "booked" "I", Cond.methodLink RX5 73 yX5_in, Cond.static yX5_in, Cond.code yX5_in cX5_in 3 (some .boolean), Cond.methodLink RX5 93 yX5_isNoLane, Cond.instanceMethod yX5_isNoLane, Cond.selects RX5 yX5_isNoLane yX5_isNoLane, Cond.code yX5_isNoLane cX5_isNoLane 2 (some .boolean), Cond.fieldLink RX5 70 "DockyardSlotsModel" "lanes" "I", Cond.methodLink RX5 122 yX5_isReached, Cond.instanceMethod yX5_isReached, Cond.selects RX5 yX5_isReached yX5_isReached, Cond.code yX5_isReached cX5_isReached 2 (some .boolean), Cond.methodLink RX5 115 yX5_slotOf, Cond.instanceMethod yX5_slotOf, Cond.selects RX5 yX5_slotOf yX5_slotOf, Cond.code yX5_slotOf cX5_slotOf 4 (some .int)]
def wsX5_shift_r2 : List Cond := [Cond.fieldLink RX5 20 "DockyardSlotsModel" "slots" "[I", Cond.methodLink RX5 119 yX5_ahead, Cond.instanceMethod yX5_ahead, Cond.selects RX5 yX5_ahead yX5_ahead, Cond.code yX5_ahead cX5_ahead 3 (some .int), Cond.methodLink RX5 100 yX5_canCome, Cond.instanceMethod yX5_canCome, Cond.selects RX5 yX5_canCome yX5_canCome, Cond.code yX5_canCome cX5_canCome 3 (some .boolean), Cond.fieldLink RX5 7 "DockyardSlotsModel" "capacities" "[I", Cond.fieldLink RX5 33 "DockyardSlotsModel" "kinds" "[C", Cond.fieldLink RX5 13 "DockyardSlotsModel" "havePower" "[Z", Cond.methodLink RX5 80 yX5_fails, Cond.instanceMethod yX5_fails, Cond.selects RX5 yX5_fails yX5_fails, Cond.code yX5_fails cX5_fails 2 (some .boolean), Cond.fieldLink RX5 67 "DockyardSlotsModel" "code" "I", Cond.methodLink RX5 104 yX5_comes, Cond.instanceMethod yX5_comes, Cond.selects RX5 yX5_comes yX5_comes, Cond.code yX5_comes cX5_comes 3 none]
def wsX5_shift : List Cond := .code yX5_shift cX5_shift 3 (some .int) :: ((wsX5_shift_r1 ++ wsX5_shift_r2) ++ wsX50 ++ (vx_atM "java/lang/ArrayIndexOutOfBoundsException" ["java/lang/IndexOutOfBoundsException", "java/lang/RuntimeException", "java/lang/Exception"]).filter goodWord)
def wsX5_canServe : List Cond := .code yX5_canServe cX5_canServe 3 (some .boolean) :: ([.fieldLink RX5 27 "DockyardSlotsModel" "atDoors" "[I", .fieldLink RX5 23 "DockyardSlotsModel" "doorKinds" "[C", .fieldLink RX5 33 "DockyardSlotsModel" "kinds" "[C"] ++ wsX50 ++ (vx_atM "java/lang/ArrayIndexOutOfBoundsException" ["java/lang/IndexOutOfBoundsException", "java/lang/RuntimeException", "java/lang/Exception"]).filter goodWord)
def wsX5_dock_r1 : List Cond := [Cond.fieldLink RX5 84 "DockyardSlotsModel" "doors" "I", Cond.fieldLink RX5 17 "DockyardSlotsModel" "counts" "[I", Cond.fieldLink RX5 27 "DockyardSlotsModel" "atDoors" "[I", Cond.fieldLink RX5 48 "DockyardSlotsModel" "places" "[I", Cond.fieldLink RX5 45 "DockyardSlotsModel" "docked" "[I", Cond.fieldLink RX5 87 "DockyardSlotsModel" "time" "I", Cond.fieldLink RX5 39 "DockyardSlotsModel" "states" "[C", Cond.fieldLink RX5 125 "DockyardSlotsModel" "moves" "I", Cond.fieldLink RX5 36 "DockyardSlotsModel" "works" "[I", Cond.methodLink RX5 90 yX5_isNone, Cond.instanceMethod yX5_isNone, Cond.selects RX5 yX5_isNone yX5_isNone, Cond.initialized RX5, Cond.code yX5_isNone cX5_isNone 2 (some .boolean), Cond.fieldLink RX5 77 "DockyardSlotsModel" "booked" "I", Cond.methodLink RX5 73 yX5_in, Cond.static yX5_in, Cond.code yX5_in cX5_in 3 (some .boolean), Cond.methodLink RX5 122 yX5_isReached, Cond.instanceMethod yX5_isReached, Cond.selects RX5 yX5_isReached yX5_isReached, Cond.code yX5_isReached cX5_isReached 2 (some .boolean), Cond.methodLink RX5 115 yX5_slotOf, Cond.instanceMethod yX5_slotOf]
def wsX5_dock_r2 : List Cond := [Cond.selects RX5 yX5_slotOf yX5_slotOf, Cond.code yX5_slotOf cX5_slotOf 4 (some .int), Cond.fieldLink RX5 70 "DockyardSlotsModel" "lanes" "I", Cond.fieldLink RX5 20 "DockyardSlotsModel" "slots" "[I", Cond.methodLink RX5 119 yX5_ahead, Cond.instanceMethod yX5_ahead, Cond.selects RX5 yX5_ahead yX5_ahead, Cond.code yX5_ahead cX5_ahead 3 (some .int), Cond.methodLink RX5 128 yX5_canServe, Cond.instanceMethod yX5_canServe, Cond.selects RX5 yX5_canServe yX5_canServe, Cond.code yX5_canServe cX5_canServe 3 (some .boolean), Cond.fieldLink RX5 23 "DockyardSlotsModel" "doorKinds" "[C", Cond.fieldLink RX5 33 "DockyardSlotsModel" "kinds" "[C", Cond.methodLink RX5 80 yX5_fails, Cond.instanceMethod yX5_fails, Cond.selects RX5 yX5_fails yX5_fails, Cond.code yX5_fails cX5_fails 2 (some .boolean), Cond.fieldLink RX5 67 "DockyardSlotsModel" "code" "I"]
def wsX5_dock : List Cond := .code yX5_dock cX5_dock 3 (some .int) :: ((wsX5_dock_r1 ++ wsX5_dock_r2) ++ wsX50 ++ (vx_atM "java/lang/ArrayIndexOutOfBoundsException" ["java/lang/IndexOutOfBoundsException", "java/lang/RuntimeException", "java/lang/Exception"]).filter goodWord)
def wsX5_waits : List Cond := .code yX5_waits cX5_waits 4 (some .int) :: ([.fieldLink RX5 42 "DockyardSlotsModel" "arrivals" "[I", .fieldLink RX5 30 "DockyardSlotsModel" "hours" "[I", .fieldLink RX5 39 "DockyardSlotsModel" "states" "[C", .fieldLink RX5 87 "DockyardSlotsModel" "time" "I", .fieldLink RX5 45 "DockyardSlotsModel" "docked" "[I"] ++ wsX50 ++ (vx_atM "java/lang/ArrayIndexOutOfBoundsException" ["java/lang/IndexOutOfBoundsException", "java/lang/RuntimeException", "java/lang/Exception"]).filter goodWord)
def wsX5_costs : List Cond := .code yX5_costs cX5_costs 3 (some .int) :: ([.fieldLink RX5 55 "DockyardSlotsModel" "free" "I", .fieldLink RX5 61 "DockyardSlotsModel" "paidHours" "I", .fieldLink RX5 58 "DockyardSlotsModel" "rate" "I", .fieldLink RX5 64 "DockyardSlotsModel" "laterRate" "I", .methodLink RX5 131 yX5_waits, .instanceMethod yX5_waits, .selects RX5 yX5_waits yX5_waits, .initialized RX5, .code yX5_waits cX5_waits 4 (some .int), .fieldLink RX5 42 "DockyardSlotsModel" "arrivals" "[I", .fieldLink RX5 30 "DockyardSlotsModel" "hours" "[I", .fieldLink RX5 39 "DockyardSlotsModel" "states" "[C", .fieldLink RX5 87 "DockyardSlotsModel" "time" "I", .fieldLink RX5 45 "DockyardSlotsModel" "docked" "[I", .methodLink RX5 108 yX5_punctual, .instanceMethod yX5_punctual, .selects RX5 yX5_punctual yX5_punctual, .code yX5_punctual cX5_punctual 2 (some .char), .fieldLink RX5 51 "DockyardSlotsModel" "tolerance" "I"] ++ wsX50 ++ (vx_atM "java/lang/ArrayIndexOutOfBoundsException" ["java/lang/IndexOutOfBoundsException", "java/lang/RuntimeException", "java/lang/Exception"]).filter goodWord)
def wsX5_leave_r1 : List Cond := [Cond.fieldLink RX5 39 "DockyardSlotsModel" "states" "[C", Cond.fieldLink RX5 87 "DockyardSlotsModel" "time" "I", Cond.fieldLink RX5 45 "DockyardSlotsModel" "docked" "[I", Cond.fieldLink RX5 36 "DockyardSlotsModel" "works" "[I", Cond.fieldLink RX5 27 "DockyardSlotsModel" "atDoors" "[I", Cond.fieldLink RX5 48 "DockyardSlotsModel" "places" "[I", Cond.fieldLink RX5 134 "DockyardSlotsModel" "charged" "J", Cond.methodLink RX5 90 yX5_isNone, Cond.instanceMethod yX5_isNone, Cond.selects RX5 yX5_isNone yX5_isNone, Cond.initialized RX5, Cond.code yX5_isNone cX5_isNone 2 (some .boolean), Cond.fieldLink RX5 77 "DockyardSlotsModel" "booked" "I", Cond.methodLink RX5 73 yX5_in, Cond.static yX5_in, Cond.code yX5_in cX5_in 3 (some .boolean), Cond.methodLink RX5 80 yX5_fails, Cond.instanceMethod yX5_fails, Cond.selects RX5 yX5_fails yX5_fails, Cond.code yX5_fails cX5_fails 2 (some .boolean), Cond.fieldLink RX5 67 "DockyardSlotsModel" "code" "I", Cond.methodLink RX5 138 yX5_costs, Cond.instanceMethod yX5_costs, Cond.selects RX5 yX5_costs yX5_costs]
def wsX5_leave_r2 : List Cond := [Cond.code yX5_costs cX5_costs 3 (some .int), Cond.fieldLink RX5 55 "DockyardSlotsModel" "free" "I", Cond.fieldLink RX5 61 "DockyardSlotsModel" "paidHours" "I", Cond.fieldLink RX5 58 "DockyardSlotsModel" "rate" "I", Cond.fieldLink RX5 64 "DockyardSlotsModel" "laterRate" "I", Cond.methodLink RX5 131 yX5_waits, Cond.instanceMethod yX5_waits, Cond.selects RX5 yX5_waits yX5_waits, Cond.code yX5_waits cX5_waits 4 (some .int), Cond.fieldLink RX5 42 "DockyardSlotsModel" "arrivals" "[I", Cond.fieldLink RX5 30 "DockyardSlotsModel" "hours" "[I", Cond.methodLink RX5 108 yX5_punctual, Cond.instanceMethod yX5_punctual, Cond.selects RX5 yX5_punctual yX5_punctual, Cond.code yX5_punctual cX5_punctual 2 (some .char), Cond.fieldLink RX5 51 "DockyardSlotsModel" "tolerance" "I"]
def wsX5_leave : List Cond := .code yX5_leave cX5_leave 2 (some .int) :: ((wsX5_leave_r1 ++ wsX5_leave_r2) ++ wsX50 ++ (vx_atM "java/lang/ArrayIndexOutOfBoundsException" ["java/lang/IndexOutOfBoundsException", "java/lang/RuntimeException", "java/lang/Exception"]).filter goodWord)
def wsX5_isElsewhere : List Cond := .code yX5_isElsewhere cX5_isElsewhere 2 (some .boolean) :: ([.fieldLink RX5 39 "DockyardSlotsModel" "states" "[C", .methodLink RX5 90 yX5_isNone, .instanceMethod yX5_isNone, .selects RX5 yX5_isNone yX5_isNone, .initialized RX5, .code yX5_isNone cX5_isNone 2 (some .boolean), .fieldLink RX5 77 "DockyardSlotsModel" "booked" "I", .methodLink RX5 73 yX5_in, .static yX5_in, .code yX5_in cX5_in 3 (some .boolean), .methodLink RX5 80 yX5_fails, .instanceMethod yX5_fails, .selects RX5 yX5_fails yX5_fails, .code yX5_fails cX5_fails 2 (some .boolean), .fieldLink RX5 67 "DockyardSlotsModel" "code" "I"] ++ wsX50 ++ (vx_atM "java/lang/ArrayIndexOutOfBoundsException" ["java/lang/IndexOutOfBoundsException", "java/lang/RuntimeException", "java/lang/Exception"]).filter goodWord)
def wsX5_laneOf_r1 : List Cond := [Cond.methodLink RX5 141 yX5_isElsewhere, Cond.instanceMethod yX5_isElsewhere, Cond.selects RX5 yX5_isElsewhere yX5_isElsewhere, Cond.initialized RX5, Cond.code yX5_isElsewhere cX5_isElsewhere 2 (some .boolean), Cond.fieldLink RX5 39 "DockyardSlotsModel" "states" "[C", Cond.methodLink RX5 90 yX5_isNone, Cond.instanceMethod yX5_isNone, Cond.selects RX5 yX5_isNone yX5_isNone, Cond.code yX5_isNone cX5_isNone 2 (some .boolean), Cond.fieldLink RX5 77 "DockyardSlotsModel" "booked" "I", Cond.methodLink RX5 73 yX5_in, Cond.static yX5_in, Cond.code yX5_in cX5_in 3 (some .boolean), Cond.methodLink RX5 80 yX5_fails, Cond.instanceMethod yX5_fails, Cond.selects RX5 yX5_fails yX5_fails, Cond.code yX5_fails cX5_fails 2 (some .boolean), Cond.fieldLink RX5 67 "DockyardSlotsModel" "code" "I", Cond.methodLink RX5 115 yX5_slotOf, Cond.instanceMethod yX5_slotOf, Cond.selects RX5 yX5_slotOf yX5_slotOf, Cond.code yX5_slotOf cX5_slotOf 4 (some .int), Cond.fieldLink RX5 70 "DockyardSlotsModel" "lanes" "I"]
def wsX5_laneOf_r2 : List Cond := [Cond.fieldLink RX5 17 "DockyardSlotsModel" "counts" "[I", Cond.fieldLink RX5 20 "DockyardSlotsModel" "slots" "[I"]
def wsX5_laneOf : List Cond := .code yX5_laneOf cX5_laneOf 2 (some .int) :: ((wsX5_laneOf_r1 ++ wsX5_laneOf_r2) ++ wsX50 ++ (vx_atM "java/lang/ArrayIndexOutOfBoundsException" ["java/lang/IndexOutOfBoundsException", "java/lang/RuntimeException", "java/lang/Exception"]).filter goodWord)
def wsX5_blockers_r1 : List Cond := [Cond.methodLink RX5 141 yX5_isElsewhere, Cond.instanceMethod yX5_isElsewhere, Cond.selects RX5 yX5_isElsewhere yX5_isElsewhere, Cond.initialized RX5, Cond.code yX5_isElsewhere cX5_isElsewhere 2 (some .boolean), Cond.fieldLink RX5 39 "DockyardSlotsModel" "states" "[C", Cond.methodLink RX5 90 yX5_isNone, Cond.instanceMethod yX5_isNone, Cond.selects RX5 yX5_isNone yX5_isNone, Cond.code yX5_isNone cX5_isNone 2 (some .boolean), Cond.fieldLink RX5 77 "DockyardSlotsModel" "booked" "I", Cond.methodLink RX5 73 yX5_in, Cond.static yX5_in, Cond.code yX5_in cX5_in 3 (some .boolean), Cond.methodLink RX5 80 yX5_fails, Cond.instanceMethod yX5_fails, Cond.selects RX5 yX5_fails yX5_fails, Cond.code yX5_fails cX5_fails 2 (some .boolean), Cond.fieldLink RX5 67 "DockyardSlotsModel" "code" "I", Cond.methodLink RX5 119 yX5_ahead, Cond.instanceMethod yX5_ahead, Cond.selects RX5 yX5_ahead yX5_ahead, Cond.code yX5_ahead cX5_ahead 3 (some .int), Cond.fieldLink RX5 17 "DockyardSlotsModel" "counts" "[I"]
def wsX5_blockers_r2 : List Cond := [Cond.methodLink RX5 115 yX5_slotOf, Cond.instanceMethod yX5_slotOf, Cond.selects RX5 yX5_slotOf yX5_slotOf, Cond.code yX5_slotOf cX5_slotOf 4 (some .int), Cond.fieldLink RX5 70 "DockyardSlotsModel" "lanes" "I", Cond.fieldLink RX5 20 "DockyardSlotsModel" "slots" "[I"]
def wsX5_blockers : List Cond := .code yX5_blockers cX5_blockers 2 (some .int) :: ((wsX5_blockers_r1 ++ wsX5_blockers_r2) ++ wsX50 ++ (vx_atM "java/lang/ArrayIndexOutOfBoundsException" ["java/lang/IndexOutOfBoundsException", "java/lang/RuntimeException", "java/lang/Exception"]).filter goodWord)
def wsX5_trailerAt : List Cond := .code yX5_trailerAt cX5_trailerAt 3 (some .int) :: ([.fieldLink RX5 17 "DockyardSlotsModel" "counts" "[I", .fieldLink RX5 20 "DockyardSlotsModel" "slots" "[I", .methodLink RX5 93 yX5_isNoLane, .instanceMethod yX5_isNoLane, .selects RX5 yX5_isNoLane yX5_isNoLane, .initialized RX5, .code yX5_isNoLane cX5_isNoLane 2 (some .boolean), .fieldLink RX5 70 "DockyardSlotsModel" "lanes" "I", .methodLink RX5 73 yX5_in, .static yX5_in, .code yX5_in cX5_in 3 (some .boolean), .methodLink RX5 80 yX5_fails, .instanceMethod yX5_fails, .selects RX5 yX5_fails yX5_fails, .code yX5_fails cX5_fails 2 (some .boolean), .fieldLink RX5 67 "DockyardSlotsModel" "code" "I"] ++ wsX50 ++ (vx_atM "java/lang/ArrayIndexOutOfBoundsException" ["java/lang/IndexOutOfBoundsException", "java/lang/RuntimeException", "java/lang/Exception"]).filter goodWord)
def wsX5_freeDoor : List Cond := .code yX5_freeDoor cX5_freeDoor 3 (some .int) :: ([.fieldLink RX5 84 "DockyardSlotsModel" "doors" "I", .fieldLink RX5 67 "DockyardSlotsModel" "code" "I", .methodLink RX5 90 yX5_isNone, .instanceMethod yX5_isNone, .selects RX5 yX5_isNone yX5_isNone, .initialized RX5, .code yX5_isNone cX5_isNone 2 (some .boolean), .fieldLink RX5 77 "DockyardSlotsModel" "booked" "I", .methodLink RX5 73 yX5_in, .static yX5_in, .code yX5_in cX5_in 3 (some .boolean), .methodLink RX5 80 yX5_fails, .instanceMethod yX5_fails, .selects RX5 yX5_fails yX5_fails, .code yX5_fails cX5_fails 2 (some .boolean), .methodLink RX5 128 yX5_canServe, .instanceMethod yX5_canServe, .selects RX5 yX5_canServe yX5_canServe, .code yX5_canServe cX5_canServe 3 (some .boolean), .fieldLink RX5 27 "DockyardSlotsModel" "atDoors" "[I", .fieldLink RX5 23 "DockyardSlotsModel" "doorKinds" "[C", .fieldLink RX5 33 "DockyardSlotsModel" "kinds" "[C"] ++ wsX50 ++ (vx_atM "java/lang/ArrayIndexOutOfBoundsException" ["java/lang/IndexOutOfBoundsException", "java/lang/RuntimeException", "java/lang/Exception"]).filter goodWord)
def wsX5_isReachedBehind_r1 : List Cond := [Cond.fieldLink RX5 17 "DockyardSlotsModel" "counts" "[I", Cond.fieldLink RX5 20 "DockyardSlotsModel" "slots" "[I", Cond.methodLink RX5 100 yX5_canCome, Cond.instanceMethod yX5_canCome, Cond.selects RX5 yX5_canCome yX5_canCome, Cond.initialized RX5, Cond.code yX5_canCome cX5_canCome 3 (some .boolean), Cond.fieldLink RX5 7 "DockyardSlotsModel" "capacities" "[I", Cond.fieldLink RX5 33 "DockyardSlotsModel" "kinds" "[C", Cond.fieldLink RX5 13 "DockyardSlotsModel" "havePower" "[Z", Cond.methodLink RX5 104 yX5_comes, Cond.instanceMethod yX5_comes, Cond.selects RX5 yX5_comes yX5_comes, Cond.code yX5_comes cX5_comes 3 none, Cond.methodLink RX5 148 yX5_isReachedWith, Cond.instanceMethod yX5_isReachedWith, Cond.selects RX5 yX5_isReachedWith yX5_isReachedWith, Cond.code yX5_isReachedWith cX5_isReachedWith 6 (some .boolean), Cond.fieldLink RX5 70 "DockyardSlotsModel" "lanes" "I", Cond.methodLink RX5 119 yX5_ahead, Cond.instanceMethod yX5_ahead, Cond.selects RX5 yX5_ahead yX5_ahead, Cond.code yX5_ahead cX5_ahead 3 (some .int), Cond.methodLink RX5 115 yX5_slotOf]
def wsX5_isReachedBehind_r2 : List Cond := [Cond.instanceMethod yX5_slotOf, Cond.selects RX5 yX5_slotOf yX5_slotOf, Cond.code yX5_slotOf cX5_slotOf 4 (some .int), Cond.methodLink RX5 144 yX5_isReachedBehind, Cond.instanceMethod yX5_isReachedBehind, Cond.selects RX5 yX5_isReachedBehind yX5_isReachedBehind]
def wsX5_isReachedBehind : List Cond := .code yX5_isReachedBehind cX5_isReachedBehind 7 (some .boolean) :: ((wsX5_isReachedBehind_r1 ++ wsX5_isReachedBehind_r2) ++ wsX50 ++ (vx_atM "java/lang/ArrayIndexOutOfBoundsException" ["java/lang/IndexOutOfBoundsException", "java/lang/RuntimeException", "java/lang/Exception"]).filter goodWord)
def wsX5_isReachedWith_r1 : List Cond := [Cond.fieldLink RX5 70 "DockyardSlotsModel" "lanes" "I", Cond.methodLink RX5 119 yX5_ahead, Cond.instanceMethod yX5_ahead, Cond.selects RX5 yX5_ahead yX5_ahead, Cond.initialized RX5, Cond.code yX5_ahead cX5_ahead 3 (some .int), Cond.fieldLink RX5 17 "DockyardSlotsModel" "counts" "[I", Cond.methodLink RX5 115 yX5_slotOf, Cond.instanceMethod yX5_slotOf, Cond.selects RX5 yX5_slotOf yX5_slotOf, Cond.code yX5_slotOf cX5_slotOf 4 (some .int), Cond.fieldLink RX5 20 "DockyardSlotsModel" "slots" "[I", Cond.methodLink RX5 144 yX5_isReachedBehind, Cond.instanceMethod yX5_isReachedBehind, Cond.selects RX5 yX5_isReachedBehind yX5_isReachedBehind, Cond.code yX5_isReachedBehind cX5_isReachedBehind 7 (some .boolean), Cond.methodLink RX5 100 yX5_canCome, Cond.instanceMethod yX5_canCome, Cond.selects RX5 yX5_canCome yX5_canCome, Cond.code yX5_canCome cX5_canCome 3 (some .boolean), Cond.fieldLink RX5 7 "DockyardSlotsModel" "capacities" "[I", Cond.fieldLink RX5 33 "DockyardSlotsModel" "kinds" "[C", Cond.fieldLink RX5 13 "DockyardSlotsModel" "havePower" "[Z", Cond.methodLink RX5 104 yX5_comes]
def wsX5_isReachedWith_r2 : List Cond := [Cond.instanceMethod yX5_comes, Cond.selects RX5 yX5_comes yX5_comes, Cond.code yX5_comes cX5_comes 3 none, Cond.methodLink RX5 148 yX5_isReachedWith, Cond.instanceMethod yX5_isReachedWith, Cond.selects RX5 yX5_isReachedWith yX5_isReachedWith]
def wsX5_isReachedWith : List Cond := .code yX5_isReachedWith cX5_isReachedWith 6 (some .boolean) :: ((wsX5_isReachedWith_r1 ++ wsX5_isReachedWith_r2) ++ wsX50 ++ (vx_atM "java/lang/ArrayIndexOutOfBoundsException" ["java/lang/IndexOutOfBoundsException", "java/lang/RuntimeException", "java/lang/Exception"]).filter goodWord)
def wsX5_fewest_r1 : List Cond := [Cond.fieldLink RX5 67 "DockyardSlotsModel" "code" "I", Cond.methodLink RX5 141 yX5_isElsewhere, Cond.instanceMethod yX5_isElsewhere, Cond.selects RX5 yX5_isElsewhere yX5_isElsewhere, Cond.initialized RX5, Cond.code yX5_isElsewhere cX5_isElsewhere 2 (some .boolean), Cond.fieldLink RX5 39 "DockyardSlotsModel" "states" "[C", Cond.methodLink RX5 90 yX5_isNone, Cond.instanceMethod yX5_isNone, Cond.selects RX5 yX5_isNone yX5_isNone, Cond.code yX5_isNone cX5_isNone 2 (some .boolean), Cond.fieldLink RX5 77 "DockyardSlotsModel" "booked" "I", Cond.methodLink RX5 73 yX5_in, Cond.static yX5_in, Cond.code yX5_in cX5_in 3 (some .boolean), Cond.methodLink RX5 80 yX5_fails, Cond.instanceMethod yX5_fails, Cond.selects RX5 yX5_fails yX5_fails, Cond.code yX5_fails cX5_fails 2 (some .boolean), Cond.methodLink RX5 148 yX5_isReachedWith, Cond.instanceMethod yX5_isReachedWith, Cond.selects RX5 yX5_isReachedWith yX5_isReachedWith, Cond.code yX5_isReachedWith cX5_isReachedWith 6 (some .boolean), Cond.fieldLink RX5 70 "DockyardSlotsModel" "lanes" "I"]
def wsX5_fewest_r2 : List Cond := [Cond.methodLink RX5 119 yX5_ahead, Cond.instanceMethod yX5_ahead, Cond.selects RX5 yX5_ahead yX5_ahead, Cond.code yX5_ahead cX5_ahead 3 (some .int), Cond.fieldLink RX5 17 "DockyardSlotsModel" "counts" "[I", Cond.methodLink RX5 115 yX5_slotOf, Cond.instanceMethod yX5_slotOf, Cond.selects RX5 yX5_slotOf yX5_slotOf, Cond.code yX5_slotOf cX5_slotOf 4 (some .int), Cond.fieldLink RX5 20 "DockyardSlotsModel" "slots" "[I", Cond.methodLink RX5 144 yX5_isReachedBehind, Cond.instanceMethod yX5_isReachedBehind, Cond.selects RX5 yX5_isReachedBehind yX5_isReachedBehind, Cond.code yX5_isReachedBehind cX5_isReachedBehind 7 (some .boolean), Cond.methodLink RX5 100 yX5_canCome, Cond.instanceMethod yX5_canCome, Cond.selects RX5 yX5_canCome yX5_canCome, Cond.code yX5_canCome cX5_canCome 3 (some .boolean), Cond.fieldLink RX5 7 "DockyardSlotsModel" "capacities" "[I", Cond.fieldLink RX5 33 "DockyardSlotsModel" "kinds" "[C", Cond.fieldLink RX5 13 "DockyardSlotsModel" "havePower" "[Z", Cond.methodLink RX5 104 yX5_comes, Cond.instanceMethod yX5_comes, Cond.selects RX5 yX5_comes yX5_comes]
def wsX5_fewest_r3 : List Cond := [Cond.code yX5_comes cX5_comes 3 none]
def wsX5_fewest : List Cond := .code yX5_fewest cX5_fewest 3 (some .int) :: ((wsX5_fewest_r1 ++ (wsX5_fewest_r2 ++ wsX5_fewest_r3)) ++ wsX50 ++ (vx_atM "java/lang/ArrayIndexOutOfBoundsException" ["java/lang/IndexOutOfBoundsException", "java/lang/RuntimeException", "java/lang/Exception"]).filter goodWord)
def wsX5_fewestMoves_r1 : List Cond := [Cond.methodLink RX5 151 yX5_fewest, Cond.instanceMethod yX5_fewest, Cond.selects RX5 yX5_fewest yX5_fewest, Cond.initialized RX5, Cond.code yX5_fewest cX5_fewest 3 (some .int), Cond.fieldLink RX5 67 "DockyardSlotsModel" "code" "I", Cond.methodLink RX5 141 yX5_isElsewhere, Cond.instanceMethod yX5_isElsewhere, Cond.selects RX5 yX5_isElsewhere yX5_isElsewhere, Cond.code yX5_isElsewhere cX5_isElsewhere 2 (some .boolean), Cond.fieldLink RX5 39 "DockyardSlotsModel" "states" "[C", Cond.methodLink RX5 90 yX5_isNone, Cond.instanceMethod yX5_isNone, Cond.selects RX5 yX5_isNone yX5_isNone, Cond.code yX5_isNone cX5_isNone 2 (some .boolean), Cond.fieldLink RX5 77 "DockyardSlotsModel" "booked" "I", Cond.methodLink RX5 73 yX5_in, Cond.static yX5_in, Cond.code yX5_in cX5_in 3 (some .boolean), Cond.methodLink RX5 80 yX5_fails, Cond.instanceMethod yX5_fails, Cond.selects RX5 yX5_fails yX5_fails, Cond.code yX5_fails cX5_fails 2 (some .boolean), Cond.methodLink RX5 148 yX5_isReachedWith]
def wsX5_fewestMoves_r2 : List Cond := [Cond.instanceMethod yX5_isReachedWith, Cond.selects RX5 yX5_isReachedWith yX5_isReachedWith, Cond.code yX5_isReachedWith cX5_isReachedWith 6 (some .boolean), Cond.fieldLink RX5 70 "DockyardSlotsModel" "lanes" "I", Cond.methodLink RX5 119 yX5_ahead, Cond.instanceMethod yX5_ahead, Cond.selects RX5 yX5_ahead yX5_ahead, Cond.code yX5_ahead cX5_ahead 3 (some .int), Cond.fieldLink RX5 17 "DockyardSlotsModel" "counts" "[I", Cond.methodLink RX5 115 yX5_slotOf, Cond.instanceMethod yX5_slotOf, Cond.selects RX5 yX5_slotOf yX5_slotOf, Cond.code yX5_slotOf cX5_slotOf 4 (some .int), Cond.fieldLink RX5 20 "DockyardSlotsModel" "slots" "[I", Cond.methodLink RX5 144 yX5_isReachedBehind, Cond.instanceMethod yX5_isReachedBehind, Cond.selects RX5 yX5_isReachedBehind yX5_isReachedBehind, Cond.code yX5_isReachedBehind cX5_isReachedBehind 7 (some .boolean), Cond.methodLink RX5 100 yX5_canCome, Cond.instanceMethod yX5_canCome, Cond.selects RX5 yX5_canCome yX5_canCome, Cond.code yX5_canCome cX5_canCome 3 (some .boolean), Cond.fieldLink RX5 7 "DockyardSlotsModel" "capacities" "[I", Cond.fieldLink RX5 33 "DockyardSlotsModel" "kinds" "[C"]
def wsX5_fewestMoves_r3 : List Cond := [Cond.fieldLink RX5 13 "DockyardSlotsModel" "havePower" "[Z", Cond.methodLink RX5 104 yX5_comes, Cond.instanceMethod yX5_comes, Cond.selects RX5 yX5_comes yX5_comes, Cond.code yX5_comes cX5_comes 3 none]
def wsX5_fewestMoves : List Cond := .code yX5_fewestMoves cX5_fewestMoves 2 (some .int) :: ((wsX5_fewestMoves_r1 ++ (wsX5_fewestMoves_r2 ++ wsX5_fewestMoves_r3)) ++ wsX50 ++ (vx_atM "java/lang/ArrayIndexOutOfBoundsException" ["java/lang/IndexOutOfBoundsException", "java/lang/RuntimeException", "java/lang/Exception"]).filter goodWord)
def wsX5_fewestByOrders_r1 : List Cond := [Cond.methodLink RX5 151 yX5_fewest, Cond.instanceMethod yX5_fewest, Cond.selects RX5 yX5_fewest yX5_fewest, Cond.initialized RX5, Cond.code yX5_fewest cX5_fewest 3 (some .int), Cond.fieldLink RX5 67 "DockyardSlotsModel" "code" "I", Cond.methodLink RX5 141 yX5_isElsewhere, Cond.instanceMethod yX5_isElsewhere, Cond.selects RX5 yX5_isElsewhere yX5_isElsewhere, Cond.code yX5_isElsewhere cX5_isElsewhere 2 (some .boolean), Cond.fieldLink RX5 39 "DockyardSlotsModel" "states" "[C", Cond.methodLink RX5 90 yX5_isNone, Cond.instanceMethod yX5_isNone, Cond.selects RX5 yX5_isNone yX5_isNone, Cond.code yX5_isNone cX5_isNone 2 (some .boolean), Cond.fieldLink RX5 77 "DockyardSlotsModel" "booked" "I", Cond.methodLink RX5 73 yX5_in, Cond.static yX5_in, Cond.code yX5_in cX5_in 3 (some .boolean), Cond.methodLink RX5 80 yX5_fails, Cond.instanceMethod yX5_fails, Cond.selects RX5 yX5_fails yX5_fails, Cond.code yX5_fails cX5_fails 2 (some .boolean), Cond.methodLink RX5 148 yX5_isReachedWith]
def wsX5_fewestByOrders_r2 : List Cond := [Cond.instanceMethod yX5_isReachedWith, Cond.selects RX5 yX5_isReachedWith yX5_isReachedWith, Cond.code yX5_isReachedWith cX5_isReachedWith 6 (some .boolean), Cond.fieldLink RX5 70 "DockyardSlotsModel" "lanes" "I", Cond.methodLink RX5 119 yX5_ahead, Cond.instanceMethod yX5_ahead, Cond.selects RX5 yX5_ahead yX5_ahead, Cond.code yX5_ahead cX5_ahead 3 (some .int), Cond.fieldLink RX5 17 "DockyardSlotsModel" "counts" "[I", Cond.methodLink RX5 115 yX5_slotOf, Cond.instanceMethod yX5_slotOf, Cond.selects RX5 yX5_slotOf yX5_slotOf, Cond.code yX5_slotOf cX5_slotOf 4 (some .int), Cond.fieldLink RX5 20 "DockyardSlotsModel" "slots" "[I", Cond.methodLink RX5 144 yX5_isReachedBehind, Cond.instanceMethod yX5_isReachedBehind, Cond.selects RX5 yX5_isReachedBehind yX5_isReachedBehind, Cond.code yX5_isReachedBehind cX5_isReachedBehind 7 (some .boolean), Cond.methodLink RX5 100 yX5_canCome, Cond.instanceMethod yX5_canCome, Cond.selects RX5 yX5_canCome yX5_canCome, Cond.code yX5_canCome cX5_canCome 3 (some .boolean), Cond.fieldLink RX5 7 "DockyardSlotsModel" "capacities" "[I", Cond.fieldLink RX5 33 "DockyardSlotsModel" "kinds" "[C"]
def wsX5_fewestByOrders_r3 : List Cond := [Cond.fieldLink RX5 13 "DockyardSlotsModel" "havePower" "[Z", Cond.methodLink RX5 104 yX5_comes, Cond.instanceMethod yX5_comes, Cond.selects RX5 yX5_comes yX5_comes, Cond.code yX5_comes cX5_comes 3 none]
def wsX5_fewestByOrders : List Cond := .code yX5_fewestByOrders cX5_fewestByOrders 2 (some .int) :: ((wsX5_fewestByOrders_r1 ++ (wsX5_fewestByOrders_r2 ++ wsX5_fewestByOrders_r3)) ++ wsX50 ++ (vx_atM "java/lang/ArrayIndexOutOfBoundsException" ["java/lang/IndexOutOfBoundsException", "java/lang/RuntimeException", "java/lang/Exception"]).filter goodWord)
def wsX5_pass : List Cond := .code yX5_pass cX5_pass 5 (some .int) :: ([.fieldLink RX5 87 "DockyardSlotsModel" "time" "I", .fieldLink RX5 77 "DockyardSlotsModel" "booked" "I", .fieldLink RX5 39 "DockyardSlotsModel" "states" "[C", .fieldLink RX5 30 "DockyardSlotsModel" "hours" "[I", .methodLink RX5 73 yX5_in, .static yX5_in, .initialized RX5, .code yX5_in cX5_in 3 (some .boolean), .methodLink RX5 80 yX5_fails, .instanceMethod yX5_fails, .selects RX5 yX5_fails yX5_fails, .code yX5_fails cX5_fails 2 (some .boolean), .fieldLink RX5 67 "DockyardSlotsModel" "code" "I"] ++ wsX50 ++ (vx_atM "java/lang/ArrayIndexOutOfBoundsException" ["java/lang/IndexOutOfBoundsException", "java/lang/RuntimeException", "java/lang/Exception"]).filter goodWord)
def wsX5_time : List Cond := .code yX5_time cX5_time 1 (some .int) :: ([.fieldLink RX5 87 "DockyardSlotsModel" "time" "I", .methodLink RX5 154 yX5_tells, .instanceMethod yX5_tells, .selects RX5 yX5_tells yX5_tells, .initialized RX5, .code yX5_tells cX5_tells 2 (some .int), .fieldLink RX5 67 "DockyardSlotsModel" "code" "I"] ++ wsX50)
def wsX5_waited_r1 : List Cond := [Cond.methodLink RX5 112 yX5_hasNotCome, Cond.instanceMethod yX5_hasNotCome, Cond.selects RX5 yX5_hasNotCome yX5_hasNotCome, Cond.initialized RX5, Cond.code yX5_hasNotCome cX5_hasNotCome 2 (some .boolean), Cond.fieldLink RX5 39 "DockyardSlotsModel" "states" "[C", Cond.methodLink RX5 90 yX5_isNone, Cond.instanceMethod yX5_isNone, Cond.selects RX5 yX5_isNone yX5_isNone, Cond.code yX5_isNone cX5_isNone 2 (some .boolean), Cond.fieldLink RX5 77 "DockyardSlotsModel" "booked" "I", Cond.methodLink RX5 73 yX5_in, Cond.static yX5_in, Cond.code yX5_in cX5_in 3 (some .boolean), Cond.methodLink RX5 80 yX5_fails, Cond.instanceMethod yX5_fails, Cond.selects RX5 yX5_fails yX5_fails, Cond.code yX5_fails cX5_fails 2 (some .boolean), Cond.fieldLink RX5 67 "DockyardSlotsModel" "code" "I", Cond.methodLink RX5 131 yX5_waits, Cond.instanceMethod yX5_waits, Cond.selects RX5 yX5_waits yX5_waits, Cond.code yX5_waits cX5_waits 4 (some .int), Cond.fieldLink RX5 42 "DockyardSlotsModel" "arrivals" "[I"]
def wsX5_waited_r2 : List Cond := [Cond.fieldLink RX5 30 "DockyardSlotsModel" "hours" "[I", Cond.fieldLink RX5 87 "DockyardSlotsModel" "time" "I", Cond.fieldLink RX5 45 "DockyardSlotsModel" "docked" "[I"]
def wsX5_waited : List Cond := .code yX5_waited cX5_waited 2 (some .int) :: ((wsX5_waited_r1 ++ wsX5_waited_r2) ++ wsX50 ++ (vx_atM "java/lang/ArrayIndexOutOfBoundsException" ["java/lang/IndexOutOfBoundsException", "java/lang/RuntimeException", "java/lang/Exception"]).filter goodWord)
def wsX5_charge_r1 : List Cond := [Cond.methodLink RX5 112 yX5_hasNotCome, Cond.instanceMethod yX5_hasNotCome, Cond.selects RX5 yX5_hasNotCome yX5_hasNotCome, Cond.initialized RX5, Cond.code yX5_hasNotCome cX5_hasNotCome 2 (some .boolean), Cond.fieldLink RX5 39 "DockyardSlotsModel" "states" "[C", Cond.methodLink RX5 90 yX5_isNone, Cond.instanceMethod yX5_isNone, Cond.selects RX5 yX5_isNone yX5_isNone, Cond.code yX5_isNone cX5_isNone 2 (some .boolean), Cond.fieldLink RX5 77 "DockyardSlotsModel" "booked" "I", Cond.methodLink RX5 73 yX5_in, Cond.static yX5_in, Cond.code yX5_in cX5_in 3 (some .boolean), Cond.methodLink RX5 80 yX5_fails, Cond.instanceMethod yX5_fails, Cond.selects RX5 yX5_fails yX5_fails, Cond.code yX5_fails cX5_fails 2 (some .boolean), Cond.fieldLink RX5 67 "DockyardSlotsModel" "code" "I", Cond.methodLink RX5 138 yX5_costs, Cond.instanceMethod yX5_costs, Cond.selects RX5 yX5_costs yX5_costs, Cond.code yX5_costs cX5_costs 3 (some .int), Cond.fieldLink RX5 55 "DockyardSlotsModel" "free" "I"]
def wsX5_charge_r2 : List Cond := [Cond.fieldLink RX5 61 "DockyardSlotsModel" "paidHours" "I", Cond.fieldLink RX5 58 "DockyardSlotsModel" "rate" "I", Cond.fieldLink RX5 64 "DockyardSlotsModel" "laterRate" "I", Cond.methodLink RX5 131 yX5_waits, Cond.instanceMethod yX5_waits, Cond.selects RX5 yX5_waits yX5_waits, Cond.code yX5_waits cX5_waits 4 (some .int), Cond.fieldLink RX5 42 "DockyardSlotsModel" "arrivals" "[I", Cond.fieldLink RX5 30 "DockyardSlotsModel" "hours" "[I", Cond.fieldLink RX5 87 "DockyardSlotsModel" "time" "I", Cond.fieldLink RX5 45 "DockyardSlotsModel" "docked" "[I", Cond.methodLink RX5 108 yX5_punctual, Cond.instanceMethod yX5_punctual, Cond.selects RX5 yX5_punctual yX5_punctual, Cond.code yX5_punctual cX5_punctual 2 (some .char), Cond.fieldLink RX5 51 "DockyardSlotsModel" "tolerance" "I"]
def wsX5_charge : List Cond := .code yX5_charge cX5_charge 2 (some .int) :: ((wsX5_charge_r1 ++ wsX5_charge_r2) ++ wsX50 ++ (vx_atM "java/lang/ArrayIndexOutOfBoundsException" ["java/lang/IndexOutOfBoundsException", "java/lang/RuntimeException", "java/lang/Exception"]).filter goodWord)
def wsX5_chargeByHours_r1 : List Cond := [Cond.methodLink RX5 112 yX5_hasNotCome, Cond.instanceMethod yX5_hasNotCome, Cond.selects RX5 yX5_hasNotCome yX5_hasNotCome, Cond.initialized RX5, Cond.code yX5_hasNotCome cX5_hasNotCome 2 (some .boolean), Cond.fieldLink RX5 39 "DockyardSlotsModel" "states" "[C", Cond.methodLink RX5 90 yX5_isNone, Cond.instanceMethod yX5_isNone, Cond.selects RX5 yX5_isNone yX5_isNone, Cond.code yX5_isNone cX5_isNone 2 (some .boolean), Cond.fieldLink RX5 77 "DockyardSlotsModel" "booked" "I", Cond.methodLink RX5 73 yX5_in, Cond.static yX5_in, Cond.code yX5_in cX5_in 3 (some .boolean), Cond.methodLink RX5 80 yX5_fails, Cond.instanceMethod yX5_fails, Cond.selects RX5 yX5_fails yX5_fails, Cond.code yX5_fails cX5_fails 2 (some .boolean), Cond.fieldLink RX5 67 "DockyardSlotsModel" "code" "I", Cond.methodLink RX5 138 yX5_costs, Cond.instanceMethod yX5_costs, Cond.selects RX5 yX5_costs yX5_costs, Cond.code yX5_costs cX5_costs 3 (some .int), Cond.fieldLink RX5 55 "DockyardSlotsModel" "free" "I"]
def wsX5_chargeByHours_r2 : List Cond := [Cond.fieldLink RX5 61 "DockyardSlotsModel" "paidHours" "I", Cond.fieldLink RX5 58 "DockyardSlotsModel" "rate" "I", Cond.fieldLink RX5 64 "DockyardSlotsModel" "laterRate" "I", Cond.methodLink RX5 131 yX5_waits, Cond.instanceMethod yX5_waits, Cond.selects RX5 yX5_waits yX5_waits, Cond.code yX5_waits cX5_waits 4 (some .int), Cond.fieldLink RX5 42 "DockyardSlotsModel" "arrivals" "[I", Cond.fieldLink RX5 30 "DockyardSlotsModel" "hours" "[I", Cond.fieldLink RX5 87 "DockyardSlotsModel" "time" "I", Cond.fieldLink RX5 45 "DockyardSlotsModel" "docked" "[I", Cond.methodLink RX5 108 yX5_punctual, Cond.instanceMethod yX5_punctual, Cond.selects RX5 yX5_punctual yX5_punctual, Cond.code yX5_punctual cX5_punctual 2 (some .char), Cond.fieldLink RX5 51 "DockyardSlotsModel" "tolerance" "I"]
def wsX5_chargeByHours : List Cond := .code yX5_chargeByHours cX5_chargeByHours 2 (some .int) :: ((wsX5_chargeByHours_r1 ++ wsX5_chargeByHours_r2) ++ wsX50 ++ (vx_atM "java/lang/ArrayIndexOutOfBoundsException" ["java/lang/IndexOutOfBoundsException", "java/lang/RuntimeException", "java/lang/Exception"]).filter goodWord)
def wsX5_moves : List Cond := .code yX5_moves cX5_moves 1 (some .int) :: ([.fieldLink RX5 125 "DockyardSlotsModel" "moves" "I", .methodLink RX5 154 yX5_tells, .instanceMethod yX5_tells, .selects RX5 yX5_tells yX5_tells, .initialized RX5, .code yX5_tells cX5_tells 2 (some .int), .fieldLink RX5 67 "DockyardSlotsModel" "code" "I"] ++ wsX50)
def wsX5_charged : List Cond := .code yX5_charged cX5_charged 1 (some .long) :: ([.fieldLink RX5 67 "DockyardSlotsModel" "code" "I", .fieldLink RX5 134 "DockyardSlotsModel" "charged" "J"] ++ wsX50)
def wsX5_usedShare : List Cond := .code yX5_usedShare cX5_usedShare 3 (some .float) :: ([.fieldLink RX5 84 "DockyardSlotsModel" "doors" "I", .fieldLink RX5 27 "DockyardSlotsModel" "atDoors" "[I", .methodLink RX5 80 yX5_fails, .instanceMethod yX5_fails, .selects RX5 yX5_fails yX5_fails, .initialized RX5, .code yX5_fails cX5_fails 2 (some .boolean), .fieldLink RX5 67 "DockyardSlotsModel" "code" "I"] ++ wsX50 ++ (vx_atM "java/lang/ArrayIndexOutOfBoundsException" ["java/lang/IndexOutOfBoundsException", "java/lang/RuntimeException", "java/lang/Exception"]).filter goodWord)
def wsX5_meanWaiting : List Cond := .code yX5_meanWaiting cX5_meanWaiting 4 (some .double) :: ([.fieldLink RX5 77 "DockyardSlotsModel" "booked" "I", .fieldLink RX5 39 "DockyardSlotsModel" "states" "[C", .methodLink RX5 131 yX5_waits, .instanceMethod yX5_waits, .selects RX5 yX5_waits yX5_waits, .initialized RX5, .code yX5_waits cX5_waits 4 (some .int), .fieldLink RX5 42 "DockyardSlotsModel" "arrivals" "[I", .fieldLink RX5 30 "DockyardSlotsModel" "hours" "[I", .fieldLink RX5 87 "DockyardSlotsModel" "time" "I", .fieldLink RX5 45 "DockyardSlotsModel" "docked" "[I", .methodLink RX5 80 yX5_fails, .instanceMethod yX5_fails, .selects RX5 yX5_fails yX5_fails, .code yX5_fails cX5_fails 2 (some .boolean), .fieldLink RX5 67 "DockyardSlotsModel" "code" "I"] ++ wsX50 ++ (vx_atM "java/lang/ArrayIndexOutOfBoundsException" ["java/lang/IndexOutOfBoundsException", "java/lang/RuntimeException", "java/lang/Exception"]).filter goodWord)
def wsJx00060_init_a7421 : List Cond := .code yJx00060_init_a7421 cJx00060_init_a7421 2 none :: ([])
def wsJ9_max_7cf53 : List Cond := .code yJ9_max_7cf53 cJ9_max_7cf53 2 (some .int) :: ([])
def wsJ9_min_7cf53 : List Cond := .code yJ9_min_7cf53 cJ9_min_7cf53 2 (some .int) :: ([])
def wsL_addLane_r1 : List Cond := [Cond.classLink RL 13 "java/lang/IllegalArgumentException", Cond.classLink RL 15 "java/lang/IllegalStateException", Cond.methodLink RL 7 yX4_addLane, Cond.instanceMethod yX4_addLane, Cond.selects RX4 yX4_addLane yX4_addLane, Cond.initialized RX4, Cond.code yX4_addLane cX4_addLane 3 (some .int), Cond.classLink RX4 48 "java/lang/IllegalArgumentException", Cond.initialized "java/lang/IllegalArgumentException", Cond.classLink RX4 58 "java/lang/IllegalStateException", Cond.initialized "java/lang/IllegalStateException", Cond.fieldLink RX4 10 "DockyardSlots" "lanes" "LDockyardSlots$LaneRow;", Cond.fieldLink RX4 55 "DockyardSlots$LaneRow" "count" "I", Cond.methodLink RX4 44 yX4_isOutside, Cond.static yX4_isOutside, Cond.code yX4_isOutside cX4_isOutside 3 (some .boolean), Cond.methodLink RX4 63 yX3_append, Cond.instanceMethod yX3_append, Cond.selects RX3 yX3_append yX3_append, Cond.initialized RX3, Cond.code yX3_append cX3_append 4 (some .int), Cond.fieldLink RX3 17 "DockyardSlots$LaneRow" "count" "I", Cond.fieldLink RX3 11 "DockyardSlots$LaneRow" "lanes" "[LDockyardSlots$Lane;", Cond.classLink RX3 9 RX2]
def wsL_addLane_r2 : List Cond := [Cond.instantiable RX2 5, Cond.initialized RX2, Cond.methodLink RX3 21 yX2_init, Cond.instanceMethod yX2_init, Cond.code yX2_init cX2_init 4 none, Cond.methodLink RX2 3 objectInit, Cond.instanceMethod objectInit, Cond.code objectInit ⟨#[0xb1]⟩ 1 none, Cond.fieldLink RX2 9 "DockyardSlots$Lane" "number" "I", Cond.fieldLink RX2 15 "DockyardSlots$Lane" "capacity" "I", Cond.fieldLink RX2 18 "DockyardSlots$Lane" "hasPower" "Z", Cond.classLink RX2 22 RX0, Cond.fieldLink RX2 24 "DockyardSlots$Lane" "trailers" "[LDockyardSlots$Appointment;"]
def wsL_addLane : List Cond := .codeWith yL_addLane cL_addLane 5 (some .int) [(0, 10, 13, 13), (0, 10, 17, 15)] :: ((wsL_addLane_r1 ++ wsL_addLane_r2) ++ wsX40 ++ wsX30 ++ wsX20 ++ (vx_atM "java/lang/ArrayIndexOutOfBoundsException" ["java/lang/IndexOutOfBoundsException", "java/lang/RuntimeException", "java/lang/Exception"]).filter goodWord ++ (vx_atS RX4 52 "java/lang/IllegalArgumentException" ["java/lang/RuntimeException", "java/lang/Exception"]).filter goodWord ++ (vx_atS RX4 62 "java/lang/IllegalStateException" ["java/lang/RuntimeException", "java/lang/Exception"]).filter goodWord)
def wsL_addDoor : List Cond := .codeWith yL_addDoor cL_addDoor 4 (some .int) [(0, 9, 12, 13), (0, 9, 15, 15)] :: ([.classLink RL 13 "java/lang/IllegalArgumentException", .classLink RL 15 "java/lang/IllegalStateException", .methodLink RL 17 yX4_addDoor, .instanceMethod yX4_addDoor, .selects RX4 yX4_addDoor yX4_addDoor, .initialized RX4, .code yX4_addDoor cX4_addDoor 3 (some .int), .classLink RX4 48 "java/lang/IllegalArgumentException", .initialized "java/lang/IllegalArgumentException", .classLink RX4 58 "java/lang/IllegalStateException", .initialized "java/lang/IllegalStateException", .fieldLink RX4 69 "DockyardSlots" "doorCount" "I", .fieldLink RX4 18 "DockyardSlots" "doors" "[LDockyardSlots$Door;", .classLink RX4 16 RX1, .instantiable RX1 2, .initialized RX1, .methodLink RX4 74 yX1_init, .instanceMethod yX1_init, .code yX1_init cX1_init 2 none, .methodLink RX1 3 objectInit, .instanceMethod objectInit, .code objectInit ⟨#[0xb1]⟩ 1 none, .fieldLink RX1 9 "DockyardSlots$Door" "kind" "C"] ++ wsX40 ++ wsX10 ++ (vx_atM "java/lang/ArrayIndexOutOfBoundsException" ["java/lang/IndexOutOfBoundsException", "java/lang/RuntimeException", "java/lang/Exception"]).filter goodWord ++ (vx_atS RX4 52 "java/lang/IllegalArgumentException" ["java/lang/RuntimeException", "java/lang/Exception"]).filter goodWord ++ (vx_atS RX4 62 "java/lang/IllegalStateException" ["java/lang/RuntimeException", "java/lang/Exception"]).filter goodWord)
def wsL_setTolerance : List Cond := .codeWith yL_setTolerance cL_setTolerance 4 (some .int) [(0, 9, 12, 13)] :: ([.classLink RL 13 "java/lang/IllegalArgumentException", .methodLink RL 21 yX4_setTolerance, .instanceMethod yX4_setTolerance, .selects RX4 yX4_setTolerance yX4_setTolerance, .initialized RX4, .code yX4_setTolerance cX4_setTolerance 3 (some .int), .classLink RX4 48 "java/lang/IllegalArgumentException", .initialized "java/lang/IllegalArgumentException", .fieldLink RX4 28 "DockyardSlots" "tolerance" "I", .methodLink RX4 44 yX4_isOutside, .static yX4_isOutside, .code yX4_isOutside cX4_isOutside 3 (some .boolean)] ++ wsX40 ++ (vx_atM "java/lang/ArrayIndexOutOfBoundsException" ["java/lang/IndexOutOfBoundsException", "java/lang/RuntimeException", "java/lang/Exception"]).filter goodWord ++ (vx_atS RX4 52 "java/lang/IllegalArgumentException" ["java/lang/RuntimeException", "java/lang/Exception"]).filter goodWord)
def wsL_setCharges : List Cond := .codeWith yL_setCharges cL_setCharges 7 (some .int) [(0, 14, 17, 13)] :: ([.classLink RL 13 "java/lang/IllegalArgumentException", .methodLink RL 25 yX4_setCharges, .instanceMethod yX4_setCharges, .selects RX4 yX4_setCharges yX4_setCharges, .initialized RX4, .code yX4_setCharges cX4_setCharges 6 (some .int), .classLink RX4 48 "java/lang/IllegalArgumentException", .initialized "java/lang/IllegalArgumentException", .fieldLink RX4 32 "DockyardSlots" "freeHours" "I", .fieldLink RX4 35 "DockyardSlots" "firstRate" "I", .fieldLink RX4 38 "DockyardSlots" "firstHours" "I", .fieldLink RX4 41 "DockyardSlots" "secondRate" "I", .methodLink RX4 44 yX4_isOutside, .static yX4_isOutside, .code yX4_isOutside cX4_isOutside 3 (some .boolean)] ++ wsX40 ++ (vx_atM "java/lang/ArrayIndexOutOfBoundsException" ["java/lang/IndexOutOfBoundsException", "java/lang/RuntimeException", "java/lang/Exception"]).filter goodWord ++ (vx_atS RX4 52 "java/lang/IllegalArgumentException" ["java/lang/RuntimeException", "java/lang/Exception"]).filter goodWord)
def wsL_book_r1 : List Cond := [Cond.classLink RL 13 "java/lang/IllegalArgumentException", Cond.classLink RL 15 "java/lang/IllegalStateException", Cond.methodLink RL 29 yX4_book, Cond.instanceMethod yX4_book, Cond.selects RX4 yX4_book yX4_book, Cond.initialized RX4, Cond.code yX4_book cX4_book 5 (some .int), Cond.classLink RX4 48 "java/lang/IllegalArgumentException", Cond.initialized "java/lang/IllegalArgumentException", Cond.classLink RX4 58 "java/lang/IllegalStateException", Cond.initialized "java/lang/IllegalStateException", Cond.fieldLink RX4 81 "DockyardSlots" "now" "I", Cond.fieldLink RX4 86 "DockyardSlots" "appointmentCount" "I", Cond.fieldLink RX4 24 "DockyardSlots" "appointments" "[LDockyardSlots$Appointment;", Cond.classLink RX4 22 RX0, Cond.instantiable RX0 10, Cond.initialized RX0, Cond.methodLink RX4 44 yX4_isOutside, Cond.static yX4_isOutside, Cond.code yX4_isOutside cX4_isOutside 3 (some .boolean), Cond.methodLink RX4 91 yX0_init, Cond.instanceMethod yX0_init, Cond.code yX0_init cX0_init 5 none, Cond.methodLink RX0 3 objectInit]
def wsL_book_r2 : List Cond := [Cond.instanceMethod objectInit, Cond.code objectInit ⟨#[0xb1]⟩ 1 none, Cond.fieldLink RX0 9 "DockyardSlots$Appointment" "number" "I", Cond.fieldLink RX0 15 "DockyardSlots$Appointment" "hour" "I", Cond.fieldLink RX0 18 "DockyardSlots$Appointment" "kind" "C", Cond.fieldLink RX0 22 "DockyardSlots$Appointment" "work" "I", Cond.fieldLink RX0 25 "DockyardSlots$Appointment" "state" "C"]
def wsL_book : List Cond := .codeWith yL_book cL_book 6 (some .int) [(0, 12, 15, 13), (0, 12, 19, 15)] :: ((wsL_book_r1 ++ wsL_book_r2) ++ wsX40 ++ wsX00 ++ (vx_atM "java/lang/ArrayIndexOutOfBoundsException" ["java/lang/IndexOutOfBoundsException", "java/lang/RuntimeException", "java/lang/Exception"]).filter goodWord ++ (vx_atS RX4 52 "java/lang/IllegalArgumentException" ["java/lang/RuntimeException", "java/lang/Exception"]).filter goodWord ++ (vx_atS RX4 62 "java/lang/IllegalStateException" ["java/lang/RuntimeException", "java/lang/Exception"]).filter goodWord)
def wsL_arrive_r1 : List Cond := [Cond.classLink RL 37 "java/util/NoSuchElementException", Cond.classLink RL 39 "java/lang/IndexOutOfBoundsException", Cond.classLink RL 15 "java/lang/IllegalStateException", Cond.classLink RL 41 "java/lang/UnsupportedOperationException", Cond.methodLink RL 33 yX4_arrive, Cond.instanceMethod yX4_arrive, Cond.selects RX4 yX4_arrive yX4_arrive, Cond.initialized RX4, Cond.code yX4_arrive cX4_arrive 5 (some .char), Cond.classLink RX4 58 "java/lang/IllegalStateException", Cond.initialized "java/lang/IllegalStateException", Cond.classLink RX4 120 "java/lang/UnsupportedOperationException", Cond.initialized "java/lang/UnsupportedOperationException", Cond.fieldLink RX4 102 "DockyardSlots$Appointment" "state" "C", Cond.fieldLink RX4 10 "DockyardSlots" "lanes" "LDockyardSlots$LaneRow;", Cond.fieldLink RX4 81 "DockyardSlots" "now" "I", Cond.fieldLink RX4 129 "DockyardSlots$Appointment" "arrivedAt" "I", Cond.methodLink RX4 94 yX4_appointmentOrThrow, Cond.instanceMethod yX4_appointmentOrThrow, Cond.selects RX4 yX4_appointmentOrThrow yX4_appointmentOrThrow, Cond.code yX4_appointmentOrThrow cX4_appointmentOrThrow 3 (some (.object "DockyardSlots$Appointment")), Cond.classLink RX4 142 "java/util/NoSuchElementException", Cond.initialized "java/util/NoSuchElementException", Cond.fieldLink RX4 86 "DockyardSlots" "appointmentCount" "I"]
def wsL_arrive_r2 : List Cond := [Cond.fieldLink RX4 24 "DockyardSlots" "appointments" "[LDockyardSlots$Appointment;", Cond.methodLink RX4 98 yX4_laneOrThrow, Cond.instanceMethod yX4_laneOrThrow, Cond.selects RX4 yX4_laneOrThrow yX4_laneOrThrow, Cond.code yX4_laneOrThrow cX4_laneOrThrow 3 (some (.object "DockyardSlots$Lane")), Cond.classLink RX4 168 "java/lang/IndexOutOfBoundsException", Cond.initialized "java/lang/IndexOutOfBoundsException", Cond.methodLink RX4 247 yX3_laneAt, Cond.instanceMethod yX3_laneAt, Cond.selects RX3 yX3_laneAt yX3_laneAt, Cond.initialized RX3, Cond.code yX3_laneAt cX3_laneAt 2 (some (.object "DockyardSlots$Lane")), Cond.fieldLink RX3 17 "DockyardSlots$LaneRow" "count" "I", Cond.fieldLink RX3 11 "DockyardSlots$LaneRow" "lanes" "[LDockyardSlots$Lane;", Cond.methodLink RX4 108 yX3_trailerCount, Cond.instanceMethod yX3_trailerCount, Cond.selects RX3 yX3_trailerCount yX3_trailerCount, Cond.code yX3_trailerCount cX3_trailerCount 4 (some .int), Cond.fieldLink RX3 28 "DockyardSlots$Lane" "count" "I", Cond.methodLink RX3 24 yX3_laneAt, Cond.methodLink RX4 114 yX2_canTake, Cond.instanceMethod yX2_canTake, Cond.selects RX2 yX2_canTake yX2_canTake, Cond.initialized RX2]
def wsL_arrive_r3 : List Cond := [Cond.code yX2_canTake cX2_canTake 2 (some .boolean), Cond.fieldLink RX2 28 "DockyardSlots$Lane" "count" "I", Cond.fieldLink RX2 15 "DockyardSlots$Lane" "capacity" "I", Cond.fieldLink RX2 18 "DockyardSlots$Lane" "hasPower" "Z", Cond.fieldLink RX2 31 "DockyardSlots$Appointment" "kind" "C", Cond.methodLink RX4 125 yX2_bringIn, Cond.instanceMethod yX2_bringIn, Cond.selects RX2 yX2_bringIn yX2_bringIn, Cond.code yX2_bringIn cX2_bringIn 2 none, Cond.fieldLink RX2 24 "DockyardSlots$Lane" "trailers" "[LDockyardSlots$Appointment;", Cond.fieldLink RX2 35 "DockyardSlots$Appointment" "lane" "LDockyardSlots$Lane;", Cond.fieldLink RX2 39 "DockyardSlots$Appointment" "place" "I", Cond.methodLink RX4 132 yX4_punctualityOf, Cond.instanceMethod yX4_punctualityOf, Cond.selects RX4 yX4_punctualityOf yX4_punctualityOf, Cond.code yX4_punctualityOf cX4_punctualityOf 3 (some .char), Cond.fieldLink RX4 139 "DockyardSlots$Appointment" "hour" "I", Cond.fieldLink RX4 28 "DockyardSlots" "tolerance" "I"]
def wsL_arrive : List Cond := .codeWith yL_arrive cL_arrive 5 (some .int) [(0, 10, 13, 37), (0, 10, 17, 39), (0, 10, 21, 15), (0, 10, 25, 41)] :: ((wsL_arrive_r1 ++ (wsL_arrive_r2 ++ wsL_arrive_r3)) ++ wsX00 ++ wsX40 ++ wsX30 ++ wsX20 ++ (vx_atM "java/lang/ArrayIndexOutOfBoundsException" ["java/lang/IndexOutOfBoundsException", "java/lang/RuntimeException", "java/lang/Exception"]).filter goodWord ++ (vx_atS RX4 62 "java/lang/IllegalStateException" ["java/lang/RuntimeException", "java/lang/Exception"]).filter goodWord ++ (vx_atS RX4 124 "java/lang/UnsupportedOperationException" ["java/lang/RuntimeException", "java/lang/Exception"]).filter goodWord ++ (vx_atS RX4 146 "java/util/NoSuchElementException" ["java/lang/RuntimeException", "java/lang/Exception"]).filter goodWord ++ (vx_atS RX4 172 "java/lang/IndexOutOfBoundsException" ["java/lang/RuntimeException", "java/lang/Exception"]).filter goodWord)
def wsL_state : List Cond := .codeWith yL_state cL_state 4 (some .int) [(0, 9, 12, 37)] :: ([.classLink RL 37 "java/util/NoSuchElementException", .methodLink RL 43 yX4_state, .instanceMethod yX4_state, .selects RX4 yX4_state yX4_state, .initialized RX4, .code yX4_state cX4_state 2 (some .char), .fieldLink RX4 102 "DockyardSlots$Appointment" "state" "C", .methodLink RX4 94 yX4_appointmentOrThrow, .instanceMethod yX4_appointmentOrThrow, .selects RX4 yX4_appointmentOrThrow yX4_appointmentOrThrow, .code yX4_appointmentOrThrow cX4_appointmentOrThrow 3 (some (.object "DockyardSlots$Appointment")), .classLink RX4 142 "java/util/NoSuchElementException", .initialized "java/util/NoSuchElementException", .fieldLink RX4 86 "DockyardSlots" "appointmentCount" "I", .fieldLink RX4 24 "DockyardSlots" "appointments" "[LDockyardSlots$Appointment;"] ++ wsX00 ++ wsX40 ++ (vx_atM "java/lang/ArrayIndexOutOfBoundsException" ["java/lang/IndexOutOfBoundsException", "java/lang/RuntimeException", "java/lang/Exception"]).filter goodWord ++ (vx_atS RX4 146 "java/util/NoSuchElementException" ["java/lang/RuntimeException", "java/lang/Exception"]).filter goodWord)
def wsL_punctuality_r1 : List Cond := [Cond.classLink RL 37 "java/util/NoSuchElementException", Cond.classLink RL 15 "java/lang/IllegalStateException", Cond.methodLink RL 47 yX4_punctuality, Cond.instanceMethod yX4_punctuality, Cond.selects RX4 yX4_punctuality yX4_punctuality, Cond.initialized RX4, Cond.code yX4_punctuality cX4_punctuality 2 (some .char), Cond.methodLink RX4 136 yX4_arrivedOrThrow, Cond.instanceMethod yX4_arrivedOrThrow, Cond.selects RX4 yX4_arrivedOrThrow yX4_arrivedOrThrow, Cond.code yX4_arrivedOrThrow cX4_arrivedOrThrow 3 (some (.object "DockyardSlots$Appointment")), Cond.classLink RX4 58 "java/lang/IllegalStateException", Cond.initialized "java/lang/IllegalStateException", Cond.methodLink RX4 94 yX4_appointmentOrThrow, Cond.instanceMethod yX4_appointmentOrThrow, Cond.selects RX4 yX4_appointmentOrThrow yX4_appointmentOrThrow, Cond.code yX4_appointmentOrThrow cX4_appointmentOrThrow 3 (some (.object "DockyardSlots$Appointment")), Cond.classLink RX4 142 "java/util/NoSuchElementException", Cond.initialized "java/util/NoSuchElementException", Cond.fieldLink RX4 86 "DockyardSlots" "appointmentCount" "I", Cond.fieldLink RX4 24 "DockyardSlots" "appointments" "[LDockyardSlots$Appointment;", Cond.methodLink RX4 237 yX0_hasArrived, Cond.instanceMethod yX0_hasArrived, Cond.selects RX0 yX0_hasArrived yX0_hasArrived]
def wsL_punctuality_r2 : List Cond := [Cond.initialized RX0, Cond.code yX0_hasArrived cX0_hasArrived 1 (some .boolean), Cond.fieldLink RX0 25 "DockyardSlots$Appointment" "state" "C", Cond.methodLink RX4 132 yX4_punctualityOf, Cond.instanceMethod yX4_punctualityOf, Cond.selects RX4 yX4_punctualityOf yX4_punctualityOf, Cond.code yX4_punctualityOf cX4_punctualityOf 3 (some .char), Cond.fieldLink RX4 129 "DockyardSlots$Appointment" "arrivedAt" "I", Cond.fieldLink RX4 139 "DockyardSlots$Appointment" "hour" "I", Cond.fieldLink RX4 28 "DockyardSlots" "tolerance" "I"]
def wsL_punctuality : List Cond := .codeWith yL_punctuality cL_punctuality 4 (some .int) [(0, 9, 12, 37), (0, 9, 15, 15)] :: ((wsL_punctuality_r1 ++ wsL_punctuality_r2) ++ wsX40 ++ wsX00 ++ (vx_atM "java/lang/ArrayIndexOutOfBoundsException" ["java/lang/IndexOutOfBoundsException", "java/lang/RuntimeException", "java/lang/Exception"]).filter goodWord ++ (vx_atS RX4 62 "java/lang/IllegalStateException" ["java/lang/RuntimeException", "java/lang/Exception"]).filter goodWord ++ (vx_atS RX4 146 "java/util/NoSuchElementException" ["java/lang/RuntimeException", "java/lang/Exception"]).filter goodWord)
def wsL_nextBooked : List Cond := .codeWith yL_nextBooked cL_nextBooked 3 (some .int) [(0, 8, 11, 37)] :: ([.classLink RL 37 "java/util/NoSuchElementException", .methodLink RL 50 yX4_nextBooked, .instanceMethod yX4_nextBooked, .selects RX4 yX4_nextBooked yX4_nextBooked, .initialized RX4, .code yX4_nextBooked cX4_nextBooked 4 (some .int), .classLink RX4 142 "java/util/NoSuchElementException", .initialized "java/util/NoSuchElementException", .fieldLink RX4 86 "DockyardSlots" "appointmentCount" "I", .fieldLink RX4 24 "DockyardSlots" "appointments" "[LDockyardSlots$Appointment;", .fieldLink RX4 102 "DockyardSlots$Appointment" "state" "C", .fieldLink RX4 139 "DockyardSlots$Appointment" "hour" "I", .fieldLink RX4 147 "DockyardSlots$Appointment" "number" "I"] ++ wsX40 ++ wsX00 ++ (vx_atM "java/lang/ArrayIndexOutOfBoundsException" ["java/lang/IndexOutOfBoundsException", "java/lang/RuntimeException", "java/lang/Exception"]).filter goodWord ++ (vx_atS RX4 146 "java/util/NoSuchElementException" ["java/lang/RuntimeException", "java/lang/Exception"]).filter goodWord)
def wsL_shift_r1 : List Cond := [Cond.classLink RL 37 "java/util/NoSuchElementException", Cond.classLink RL 39 "java/lang/IndexOutOfBoundsException", Cond.classLink RL 15 "java/lang/IllegalStateException", Cond.classLink RL 41 "java/lang/UnsupportedOperationException", Cond.methodLink RL 54 yX4_shift, Cond.instanceMethod yX4_shift, Cond.selects RX4 yX4_shift yX4_shift, Cond.initialized RX4, Cond.code yX4_shift cX4_shift 6 (some .int), Cond.classLink RX4 120 "java/lang/UnsupportedOperationException", Cond.initialized "java/lang/UnsupportedOperationException", Cond.fieldLink RX4 154 "DockyardSlots$Lane" "number" "I", Cond.fieldLink RX4 161 "DockyardSlots" "moveCount" "I", Cond.methodLink RX4 94 yX4_appointmentOrThrow, Cond.instanceMethod yX4_appointmentOrThrow, Cond.selects RX4 yX4_appointmentOrThrow yX4_appointmentOrThrow, Cond.code yX4_appointmentOrThrow cX4_appointmentOrThrow 3 (some (.object "DockyardSlots$Appointment")), Cond.classLink RX4 142 "java/util/NoSuchElementException", Cond.initialized "java/util/NoSuchElementException", Cond.fieldLink RX4 86 "DockyardSlots" "appointmentCount" "I", Cond.fieldLink RX4 24 "DockyardSlots" "appointments" "[LDockyardSlots$Appointment;", Cond.methodLink RX4 98 yX4_laneOrThrow, Cond.instanceMethod yX4_laneOrThrow, Cond.selects RX4 yX4_laneOrThrow yX4_laneOrThrow]
def wsL_shift_r2 : List Cond := [Cond.code yX4_laneOrThrow cX4_laneOrThrow 3 (some (.object "DockyardSlots$Lane")), Cond.classLink RX4 168 "java/lang/IndexOutOfBoundsException", Cond.initialized "java/lang/IndexOutOfBoundsException", Cond.fieldLink RX4 10 "DockyardSlots" "lanes" "LDockyardSlots$LaneRow;", Cond.methodLink RX4 247 yX3_laneAt, Cond.instanceMethod yX3_laneAt, Cond.selects RX3 yX3_laneAt yX3_laneAt, Cond.initialized RX3, Cond.code yX3_laneAt cX3_laneAt 2 (some (.object "DockyardSlots$Lane")), Cond.fieldLink RX3 17 "DockyardSlots$LaneRow" "count" "I", Cond.fieldLink RX3 11 "DockyardSlots$LaneRow" "lanes" "[LDockyardSlots$Lane;", Cond.methodLink RX4 150 yX4_homeOfReachedOrThrow, Cond.static yX4_homeOfReachedOrThrow, Cond.code yX4_homeOfReachedOrThrow cX4_homeOfReachedOrThrow 2 (some (.object "DockyardSlots$Lane")), Cond.classLink RX4 58 "java/lang/IllegalStateException", Cond.initialized "java/lang/IllegalStateException", Cond.methodLink RX4 202 yX4_homeOrThrow, Cond.static yX4_homeOrThrow, Cond.code yX4_homeOrThrow cX4_homeOrThrow 2 (some (.object "DockyardSlots$Lane")), Cond.fieldLink RX4 252 "DockyardSlots$Appointment" "lane" "LDockyardSlots$Lane;", Cond.methodLink RX4 205 yX2_countBefore, Cond.instanceMethod yX2_countBefore, Cond.selects RX2 yX2_countBefore yX2_countBefore, Cond.initialized RX2]
def wsL_shift_r3 : List Cond := [Cond.code yX2_countBefore cX2_countBefore 2 (some .int), Cond.fieldLink RX2 28 "DockyardSlots$Lane" "count" "I", Cond.fieldLink RX2 39 "DockyardSlots$Appointment" "place" "I", Cond.methodLink RX4 114 yX2_canTake, Cond.instanceMethod yX2_canTake, Cond.selects RX2 yX2_canTake yX2_canTake, Cond.code yX2_canTake cX2_canTake 2 (some .boolean), Cond.fieldLink RX2 15 "DockyardSlots$Lane" "capacity" "I", Cond.fieldLink RX2 18 "DockyardSlots$Lane" "hasPower" "Z", Cond.fieldLink RX2 31 "DockyardSlots$Appointment" "kind" "C", Cond.methodLink RX4 157 yX2_takeOut, Cond.instanceMethod yX2_takeOut, Cond.selects RX2 yX2_takeOut yX2_takeOut, Cond.code yX2_takeOut cX2_takeOut 2 (some (.object "DockyardSlots$Appointment")), Cond.fieldLink RX2 35 "DockyardSlots$Appointment" "lane" "LDockyardSlots$Lane;", Cond.methodLink RX2 42 yX2_fromExit, Cond.instanceMethod yX2_fromExit, Cond.selects RX2 yX2_fromExit yX2_fromExit, Cond.code yX2_fromExit cX2_fromExit 2 (some (.object "DockyardSlots$Appointment")), Cond.fieldLink RX2 24 "DockyardSlots$Lane" "trailers" "[LDockyardSlots$Appointment;", Cond.methodLink RX4 125 yX2_bringIn, Cond.instanceMethod yX2_bringIn, Cond.selects RX2 yX2_bringIn yX2_bringIn, Cond.code yX2_bringIn cX2_bringIn 2 none]
def wsL_shift : List Cond := .codeWith yL_shift cL_shift 5 (some .int) [(0, 10, 13, 37), (0, 10, 17, 39), (0, 10, 21, 15), (0, 10, 25, 41)] :: ((wsL_shift_r1 ++ (wsL_shift_r2 ++ wsL_shift_r3)) ++ wsX20 ++ wsX40 ++ wsX30 ++ wsX00 ++ (vx_atM "java/lang/ArrayIndexOutOfBoundsException" ["java/lang/IndexOutOfBoundsException", "java/lang/RuntimeException", "java/lang/Exception"]).filter goodWord ++ (vx_atS RX4 124 "java/lang/UnsupportedOperationException" ["java/lang/RuntimeException", "java/lang/Exception"]).filter goodWord ++ (vx_atS RX4 146 "java/util/NoSuchElementException" ["java/lang/RuntimeException", "java/lang/Exception"]).filter goodWord ++ (vx_atS RX4 172 "java/lang/IndexOutOfBoundsException" ["java/lang/RuntimeException", "java/lang/Exception"]).filter goodWord ++ (vx_atS RX4 62 "java/lang/IllegalStateException" ["java/lang/RuntimeException", "java/lang/Exception"]).filter goodWord)
def wsL_dock_r1 : List Cond := [Cond.classLink RL 37 "java/util/NoSuchElementException", Cond.classLink RL 39 "java/lang/IndexOutOfBoundsException", Cond.classLink RL 15 "java/lang/IllegalStateException", Cond.classLink RL 41 "java/lang/UnsupportedOperationException", Cond.methodLink RL 58 yX4_dock, Cond.instanceMethod yX4_dock, Cond.selects RX4 yX4_dock yX4_dock, Cond.initialized RX4, Cond.code yX4_dock cX4_dock 6 (some .int), Cond.classLink RX4 168 "java/lang/IndexOutOfBoundsException", Cond.initialized "java/lang/IndexOutOfBoundsException", Cond.classLink RX4 120 "java/lang/UnsupportedOperationException", Cond.initialized "java/lang/UnsupportedOperationException", Cond.fieldLink RX4 176 "DockyardSlots$Door" "isUsed" "Z", Cond.fieldLink RX4 180 "DockyardSlots$Appointment" "door" "LDockyardSlots$Door;", Cond.fieldLink RX4 102 "DockyardSlots$Appointment" "state" "C", Cond.fieldLink RX4 81 "DockyardSlots" "now" "I", Cond.fieldLink RX4 184 "DockyardSlots$Appointment" "dockedAt" "I", Cond.fieldLink RX4 161 "DockyardSlots" "moveCount" "I", Cond.methodLink RX4 94 yX4_appointmentOrThrow, Cond.instanceMethod yX4_appointmentOrThrow, Cond.selects RX4 yX4_appointmentOrThrow yX4_appointmentOrThrow, Cond.code yX4_appointmentOrThrow cX4_appointmentOrThrow 3 (some (.object "DockyardSlots$Appointment")), Cond.classLink RX4 142 "java/util/NoSuchElementException"]
def wsL_dock_r2 : List Cond := [Cond.initialized "java/util/NoSuchElementException", Cond.fieldLink RX4 86 "DockyardSlots" "appointmentCount" "I", Cond.fieldLink RX4 24 "DockyardSlots" "appointments" "[LDockyardSlots$Appointment;", Cond.methodLink RX4 164 yX4_doorAt, Cond.instanceMethod yX4_doorAt, Cond.selects RX4 yX4_doorAt yX4_doorAt, Cond.code yX4_doorAt cX4_doorAt 2 (some (.object "DockyardSlots$Door")), Cond.fieldLink RX4 69 "DockyardSlots" "doorCount" "I", Cond.fieldLink RX4 18 "DockyardSlots" "doors" "[LDockyardSlots$Door;", Cond.methodLink RX4 150 yX4_homeOfReachedOrThrow, Cond.static yX4_homeOfReachedOrThrow, Cond.code yX4_homeOfReachedOrThrow cX4_homeOfReachedOrThrow 2 (some (.object "DockyardSlots$Lane")), Cond.classLink RX4 58 "java/lang/IllegalStateException", Cond.initialized "java/lang/IllegalStateException", Cond.methodLink RX4 202 yX4_homeOrThrow, Cond.static yX4_homeOrThrow, Cond.code yX4_homeOrThrow cX4_homeOrThrow 2 (some (.object "DockyardSlots$Lane")), Cond.fieldLink RX4 252 "DockyardSlots$Appointment" "lane" "LDockyardSlots$Lane;", Cond.methodLink RX4 205 yX2_countBefore, Cond.instanceMethod yX2_countBefore, Cond.selects RX2 yX2_countBefore yX2_countBefore, Cond.initialized RX2, Cond.code yX2_countBefore cX2_countBefore 2 (some .int), Cond.fieldLink RX2 28 "DockyardSlots$Lane" "count" "I"]
def wsL_dock_r3 : List Cond := [Cond.fieldLink RX2 39 "DockyardSlots$Appointment" "place" "I", Cond.methodLink RX4 173 yX1_canTake, Cond.instanceMethod yX1_canTake, Cond.selects RX1 yX1_canTake yX1_canTake, Cond.initialized RX1, Cond.code yX1_canTake cX1_canTake 2 (some .boolean), Cond.fieldLink RX1 15 "DockyardSlots$Door" "isUsed" "Z", Cond.fieldLink RX1 9 "DockyardSlots$Door" "kind" "C", Cond.fieldLink RX1 19 "DockyardSlots$Appointment" "kind" "C", Cond.methodLink RX4 157 yX2_takeOut, Cond.instanceMethod yX2_takeOut, Cond.selects RX2 yX2_takeOut yX2_takeOut, Cond.code yX2_takeOut cX2_takeOut 2 (some (.object "DockyardSlots$Appointment")), Cond.fieldLink RX2 35 "DockyardSlots$Appointment" "lane" "LDockyardSlots$Lane;", Cond.methodLink RX2 42 yX2_fromExit, Cond.instanceMethod yX2_fromExit, Cond.selects RX2 yX2_fromExit yX2_fromExit, Cond.code yX2_fromExit cX2_fromExit 2 (some (.object "DockyardSlots$Appointment")), Cond.fieldLink RX2 24 "DockyardSlots$Lane" "trailers" "[LDockyardSlots$Appointment;", Cond.methodLink RX4 187 yX0_doneAt, Cond.instanceMethod yX0_doneAt, Cond.selects RX0 yX0_doneAt yX0_doneAt, Cond.initialized RX0, Cond.code yX0_doneAt cX0_doneAt 1 (some .int)]
def wsL_dock_r4 : List Cond := [Cond.fieldLink RX0 28 "DockyardSlots$Appointment" "dockedAt" "I", Cond.fieldLink RX0 22 "DockyardSlots$Appointment" "work" "I"]
def wsL_dock : List Cond := .codeWith yL_dock cL_dock 5 (some .int) [(0, 10, 13, 37), (0, 10, 17, 39), (0, 10, 21, 15), (0, 10, 25, 41)] :: ((wsL_dock_r1 ++ (wsL_dock_r2 ++ (wsL_dock_r3 ++ wsL_dock_r4))) ++ wsX10 ++ wsX00 ++ wsX40 ++ wsX20 ++ (vx_atM "java/lang/ArrayIndexOutOfBoundsException" ["java/lang/IndexOutOfBoundsException", "java/lang/RuntimeException", "java/lang/Exception"]).filter goodWord ++ (vx_atS RX4 172 "java/lang/IndexOutOfBoundsException" ["java/lang/RuntimeException", "java/lang/Exception"]).filter goodWord ++ (vx_atS RX4 124 "java/lang/UnsupportedOperationException" ["java/lang/RuntimeException", "java/lang/Exception"]).filter goodWord ++ (vx_atS RX4 146 "java/util/NoSuchElementException" ["java/lang/RuntimeException", "java/lang/Exception"]).filter goodWord ++ (vx_atS RX4 62 "java/lang/IllegalStateException" ["java/lang/RuntimeException", "java/lang/Exception"]).filter goodWord)
def wsL_leave_r1 : List Cond := [Cond.classLink RL 37 "java/util/NoSuchElementException", Cond.classLink RL 15 "java/lang/IllegalStateException", Cond.classLink RL 41 "java/lang/UnsupportedOperationException", Cond.methodLink RL 61 yX4_leave, Cond.instanceMethod yX4_leave, Cond.selects RX4 yX4_leave yX4_leave, Cond.initialized RX4, Cond.code yX4_leave cX4_leave 5 (some .int), Cond.classLink RX4 58 "java/lang/IllegalStateException", Cond.initialized "java/lang/IllegalStateException", Cond.classLink RX4 120 "java/lang/UnsupportedOperationException", Cond.initialized "java/lang/UnsupportedOperationException", Cond.fieldLink RX4 180 "DockyardSlots$Appointment" "door" "LDockyardSlots$Door;", Cond.fieldLink RX4 81 "DockyardSlots" "now" "I", Cond.fieldLink RX4 176 "DockyardSlots$Door" "isUsed" "Z", Cond.fieldLink RX4 102 "DockyardSlots$Appointment" "state" "C", Cond.fieldLink RX4 198 "DockyardSlots" "chargedSum" "J", Cond.methodLink RX4 94 yX4_appointmentOrThrow, Cond.instanceMethod yX4_appointmentOrThrow, Cond.selects RX4 yX4_appointmentOrThrow yX4_appointmentOrThrow, Cond.code yX4_appointmentOrThrow cX4_appointmentOrThrow 3 (some (.object "DockyardSlots$Appointment")), Cond.classLink RX4 142 "java/util/NoSuchElementException", Cond.initialized "java/util/NoSuchElementException", Cond.fieldLink RX4 86 "DockyardSlots" "appointmentCount" "I"]
def wsL_leave_r2 : List Cond := [Cond.fieldLink RX4 24 "DockyardSlots" "appointments" "[LDockyardSlots$Appointment;", Cond.methodLink RX4 187 yX0_doneAt, Cond.instanceMethod yX0_doneAt, Cond.selects RX0 yX0_doneAt yX0_doneAt, Cond.initialized RX0, Cond.code yX0_doneAt cX0_doneAt 1 (some .int), Cond.fieldLink RX0 28 "DockyardSlots$Appointment" "dockedAt" "I", Cond.fieldLink RX0 22 "DockyardSlots$Appointment" "work" "I", Cond.methodLink RX4 194 yX4_chargeInSteps, Cond.instanceMethod yX4_chargeInSteps, Cond.selects RX4 yX4_chargeInSteps yX4_chargeInSteps, Cond.code yX4_chargeInSteps cX4_chargeInSteps 4 (some .int), Cond.fieldLink RX4 32 "DockyardSlots" "freeHours" "I", Cond.methodLink RX4 274 Lib.Math.max.name, Cond.static Lib.Math.max.name, Cond.initialized "java/lang/Math", Cond.code Lib.Math.max.name Lib.Math.max.code 2 (some .int), Cond.fieldLink RX4 38 "DockyardSlots" "firstHours" "I", Cond.methodLink RX4 268 Lib.Math.min.name, Cond.static Lib.Math.min.name, Cond.code Lib.Math.min.name Lib.Math.min.code 2 (some .int), Cond.fieldLink RX4 35 "DockyardSlots" "firstRate" "I", Cond.fieldLink RX4 41 "DockyardSlots" "secondRate" "I", Cond.methodLink RX4 132 yX4_punctualityOf]
def wsL_leave_r3 : List Cond := [Cond.instanceMethod yX4_punctualityOf, Cond.selects RX4 yX4_punctualityOf yX4_punctualityOf, Cond.code yX4_punctualityOf cX4_punctualityOf 3 (some .char), Cond.fieldLink RX4 129 "DockyardSlots$Appointment" "arrivedAt" "I", Cond.fieldLink RX4 139 "DockyardSlots$Appointment" "hour" "I", Cond.fieldLink RX4 28 "DockyardSlots" "tolerance" "I", Cond.methodLink RX4 225 yX4_waitingHours, Cond.instanceMethod yX4_waitingHours, Cond.selects RX4 yX4_waitingHours yX4_waitingHours, Cond.code yX4_waitingHours cX4_waitingHours 4 (some .int), Cond.fieldLink RX4 184 "DockyardSlots$Appointment" "dockedAt" "I"]
def wsL_leave : List Cond := .codeWith yL_leave cL_leave 4 (some .int) [(0, 9, 12, 37), (0, 9, 15, 15), (0, 9, 18, 41)] :: ((wsL_leave_r1 ++ (wsL_leave_r2 ++ wsL_leave_r3)) ++ wsX00 ++ wsX40 ++ wsX10 ++ (vx_atM "java/lang/ArrayIndexOutOfBoundsException" ["java/lang/IndexOutOfBoundsException", "java/lang/RuntimeException", "java/lang/Exception"]).filter goodWord ++ (vx_atS RX4 62 "java/lang/IllegalStateException" ["java/lang/RuntimeException", "java/lang/Exception"]).filter goodWord ++ (vx_atS RX4 124 "java/lang/UnsupportedOperationException" ["java/lang/RuntimeException", "java/lang/Exception"]).filter goodWord ++ (vx_atS RX4 146 "java/util/NoSuchElementException" ["java/lang/RuntimeException", "java/lang/Exception"]).filter goodWord)
def wsL_laneOf : List Cond := .codeWith yL_laneOf cL_laneOf 4 (some .int) [(0, 9, 12, 37), (0, 9, 15, 15)] :: ([.classLink RL 37 "java/util/NoSuchElementException", .classLink RL 15 "java/lang/IllegalStateException", .methodLink RL 64 yX4_laneOf, .instanceMethod yX4_laneOf, .selects RX4 yX4_laneOf yX4_laneOf, .initialized RX4, .code yX4_laneOf cX4_laneOf 2 (some .int), .fieldLink RX4 154 "DockyardSlots$Lane" "number" "I", .methodLink RX4 94 yX4_appointmentOrThrow, .instanceMethod yX4_appointmentOrThrow, .selects RX4 yX4_appointmentOrThrow yX4_appointmentOrThrow, .code yX4_appointmentOrThrow cX4_appointmentOrThrow 3 (some (.object "DockyardSlots$Appointment")), .classLink RX4 142 "java/util/NoSuchElementException", .initialized "java/util/NoSuchElementException", .fieldLink RX4 86 "DockyardSlots" "appointmentCount" "I", .fieldLink RX4 24 "DockyardSlots" "appointments" "[LDockyardSlots$Appointment;", .methodLink RX4 202 yX4_homeOrThrow, .static yX4_homeOrThrow, .code yX4_homeOrThrow cX4_homeOrThrow 2 (some (.object "DockyardSlots$Lane")), .classLink RX4 58 "java/lang/IllegalStateException", .initialized "java/lang/IllegalStateException", .fieldLink RX4 252 "DockyardSlots$Appointment" "lane" "LDockyardSlots$Lane;"] ++ wsX20 ++ wsX40 ++ wsX00 ++ (vx_atM "java/lang/ArrayIndexOutOfBoundsException" ["java/lang/IndexOutOfBoundsException", "java/lang/RuntimeException", "java/lang/Exception"]).filter goodWord ++ (vx_atS RX4 146 "java/util/NoSuchElementException" ["java/lang/RuntimeException", "java/lang/Exception"]).filter goodWord ++ (vx_atS RX4 62 "java/lang/IllegalStateException" ["java/lang/RuntimeException", "java/lang/Exception"]).filter goodWord)
def wsL_blockers_r1 : List Cond := [Cond.classLink RL 37 "java/util/NoSuchElementException", Cond.classLink RL 15 "java/lang/IllegalStateException", Cond.methodLink RL 67 yX4_blockers, Cond.instanceMethod yX4_blockers, Cond.selects RX4 yX4_blockers yX4_blockers, Cond.initialized RX4, Cond.code yX4_blockers cX4_blockers 3 (some .int), Cond.methodLink RX4 94 yX4_appointmentOrThrow, Cond.instanceMethod yX4_appointmentOrThrow, Cond.selects RX4 yX4_appointmentOrThrow yX4_appointmentOrThrow, Cond.code yX4_appointmentOrThrow cX4_appointmentOrThrow 3 (some (.object "DockyardSlots$Appointment")), Cond.classLink RX4 142 "java/util/NoSuchElementException", Cond.initialized "java/util/NoSuchElementException", Cond.fieldLink RX4 86 "DockyardSlots" "appointmentCount" "I", Cond.fieldLink RX4 24 "DockyardSlots" "appointments" "[LDockyardSlots$Appointment;", Cond.methodLink RX4 202 yX4_homeOrThrow, Cond.static yX4_homeOrThrow, Cond.code yX4_homeOrThrow cX4_homeOrThrow 2 (some (.object "DockyardSlots$Lane")), Cond.classLink RX4 58 "java/lang/IllegalStateException", Cond.initialized "java/lang/IllegalStateException", Cond.fieldLink RX4 252 "DockyardSlots$Appointment" "lane" "LDockyardSlots$Lane;", Cond.methodLink RX4 205 yX2_countBefore, Cond.instanceMethod yX2_countBefore, Cond.selects RX2 yX2_countBefore yX2_countBefore]
def wsL_blockers_r2 : List Cond := [Cond.initialized RX2, Cond.code yX2_countBefore cX2_countBefore 2 (some .int), Cond.fieldLink RX2 28 "DockyardSlots$Lane" "count" "I", Cond.fieldLink RX2 39 "DockyardSlots$Appointment" "place" "I"]
def wsL_blockers : List Cond := .codeWith yL_blockers cL_blockers 4 (some .int) [(0, 9, 12, 37), (0, 9, 15, 15)] :: ((wsL_blockers_r1 ++ wsL_blockers_r2) ++ wsX40 ++ wsX00 ++ wsX20 ++ (vx_atM "java/lang/ArrayIndexOutOfBoundsException" ["java/lang/IndexOutOfBoundsException", "java/lang/RuntimeException", "java/lang/Exception"]).filter goodWord ++ (vx_atS RX4 146 "java/util/NoSuchElementException" ["java/lang/RuntimeException", "java/lang/Exception"]).filter goodWord ++ (vx_atS RX4 62 "java/lang/IllegalStateException" ["java/lang/RuntimeException", "java/lang/Exception"]).filter goodWord)
def wsL_trailerAt_r1 : List Cond := [Cond.classLink RL 39 "java/lang/IndexOutOfBoundsException", Cond.classLink RL 37 "java/util/NoSuchElementException", Cond.methodLink RL 70 yX4_trailerAt, Cond.instanceMethod yX4_trailerAt, Cond.selects RX4 yX4_trailerAt yX4_trailerAt, Cond.initialized RX4, Cond.code yX4_trailerAt cX4_trailerAt 4 (some .int), Cond.classLink RX4 142 "java/util/NoSuchElementException", Cond.initialized "java/util/NoSuchElementException", Cond.fieldLink RX4 147 "DockyardSlots$Appointment" "number" "I", Cond.methodLink RX4 98 yX4_laneOrThrow, Cond.instanceMethod yX4_laneOrThrow, Cond.selects RX4 yX4_laneOrThrow yX4_laneOrThrow, Cond.code yX4_laneOrThrow cX4_laneOrThrow 3 (some (.object "DockyardSlots$Lane")), Cond.classLink RX4 168 "java/lang/IndexOutOfBoundsException", Cond.initialized "java/lang/IndexOutOfBoundsException", Cond.fieldLink RX4 10 "DockyardSlots" "lanes" "LDockyardSlots$LaneRow;", Cond.methodLink RX4 247 yX3_laneAt, Cond.instanceMethod yX3_laneAt, Cond.selects RX3 yX3_laneAt yX3_laneAt, Cond.initialized RX3, Cond.code yX3_laneAt cX3_laneAt 2 (some (.object "DockyardSlots$Lane")), Cond.fieldLink RX3 17 "DockyardSlots$LaneRow" "count" "I", Cond.fieldLink RX3 11 "DockyardSlots$LaneRow" "lanes" "[LDockyardSlots$Lane;"]
def wsL_trailerAt_r2 : List Cond := [Cond.methodLink RX4 208 yX2_fromExit, Cond.instanceMethod yX2_fromExit, Cond.selects RX2 yX2_fromExit yX2_fromExit, Cond.initialized RX2, Cond.code yX2_fromExit cX2_fromExit 2 (some (.object "DockyardSlots$Appointment")), Cond.fieldLink RX2 28 "DockyardSlots$Lane" "count" "I", Cond.fieldLink RX2 24 "DockyardSlots$Lane" "trailers" "[LDockyardSlots$Appointment;"]
def wsL_trailerAt : List Cond := .codeWith yL_trailerAt cL_trailerAt 5 (some .int) [(0, 10, 13, 39), (0, 10, 17, 37)] :: ((wsL_trailerAt_r1 ++ wsL_trailerAt_r2) ++ wsX00 ++ wsX40 ++ wsX30 ++ wsX20 ++ (vx_atM "java/lang/ArrayIndexOutOfBoundsException" ["java/lang/IndexOutOfBoundsException", "java/lang/RuntimeException", "java/lang/Exception"]).filter goodWord ++ (vx_atS RX4 146 "java/util/NoSuchElementException" ["java/lang/RuntimeException", "java/lang/Exception"]).filter goodWord ++ (vx_atS RX4 172 "java/lang/IndexOutOfBoundsException" ["java/lang/RuntimeException", "java/lang/Exception"]).filter goodWord)
def wsL_freeDoor_r1 : List Cond := [Cond.classLink RL 37 "java/util/NoSuchElementException", Cond.classLink RL 15 "java/lang/IllegalStateException", Cond.methodLink RL 73 yX4_freeDoor, Cond.instanceMethod yX4_freeDoor, Cond.selects RX4 yX4_freeDoor yX4_freeDoor, Cond.initialized RX4, Cond.code yX4_freeDoor cX4_freeDoor 6 (some .int), Cond.classLink RX4 58 "java/lang/IllegalStateException", Cond.initialized "java/lang/IllegalStateException", Cond.fieldLink RX4 69 "DockyardSlots" "doorCount" "I", Cond.methodLink RX4 94 yX4_appointmentOrThrow, Cond.instanceMethod yX4_appointmentOrThrow, Cond.selects RX4 yX4_appointmentOrThrow yX4_appointmentOrThrow, Cond.code yX4_appointmentOrThrow cX4_appointmentOrThrow 3 (some (.object "DockyardSlots$Appointment")), Cond.classLink RX4 142 "java/util/NoSuchElementException", Cond.initialized "java/util/NoSuchElementException", Cond.fieldLink RX4 86 "DockyardSlots" "appointmentCount" "I", Cond.fieldLink RX4 24 "DockyardSlots" "appointments" "[LDockyardSlots$Appointment;", Cond.methodLink RX4 164 yX4_doorAt, Cond.instanceMethod yX4_doorAt, Cond.selects RX4 yX4_doorAt yX4_doorAt, Cond.code yX4_doorAt cX4_doorAt 2 (some (.object "DockyardSlots$Door")), Cond.fieldLink RX4 18 "DockyardSlots" "doors" "[LDockyardSlots$Door;", Cond.methodLink RX4 173 yX1_canTake]
def wsL_freeDoor_r2 : List Cond := [Cond.instanceMethod yX1_canTake, Cond.selects RX1 yX1_canTake yX1_canTake, Cond.initialized RX1, Cond.code yX1_canTake cX1_canTake 2 (some .boolean), Cond.fieldLink RX1 15 "DockyardSlots$Door" "isUsed" "Z", Cond.fieldLink RX1 9 "DockyardSlots$Door" "kind" "C", Cond.fieldLink RX1 19 "DockyardSlots$Appointment" "kind" "C"]
def wsL_freeDoor : List Cond := .codeWith yL_freeDoor cL_freeDoor 4 (some .int) [(0, 9, 12, 37), (0, 9, 15, 15)] :: ((wsL_freeDoor_r1 ++ wsL_freeDoor_r2) ++ wsX40 ++ wsX10 ++ wsX00 ++ (vx_atM "java/lang/ArrayIndexOutOfBoundsException" ["java/lang/IndexOutOfBoundsException", "java/lang/RuntimeException", "java/lang/Exception"]).filter goodWord ++ (vx_atS RX4 62 "java/lang/IllegalStateException" ["java/lang/RuntimeException", "java/lang/Exception"]).filter goodWord ++ (vx_atS RX4 146 "java/util/NoSuchElementException" ["java/lang/RuntimeException", "java/lang/Exception"]).filter goodWord)
def wsL_fewestMoves_r1 : List Cond := [Cond.classLink RL 37 "java/util/NoSuchElementException", Cond.classLink RL 15 "java/lang/IllegalStateException", Cond.classLink RL 41 "java/lang/UnsupportedOperationException", Cond.methodLink RL 76 yX4_fewestMoves, Cond.instanceMethod yX4_fewestMoves, Cond.selects RX4 yX4_fewestMoves yX4_fewestMoves, Cond.initialized RX4, Cond.code yX4_fewestMoves cX4_fewestMoves 5 (some .int), Cond.classLink RX4 120 "java/lang/UnsupportedOperationException", Cond.initialized "java/lang/UnsupportedOperationException", Cond.fieldLink RX4 10 "DockyardSlots" "lanes" "LDockyardSlots$LaneRow;", Cond.methodLink RX4 94 yX4_appointmentOrThrow, Cond.instanceMethod yX4_appointmentOrThrow, Cond.selects RX4 yX4_appointmentOrThrow yX4_appointmentOrThrow, Cond.code yX4_appointmentOrThrow cX4_appointmentOrThrow 3 (some (.object "DockyardSlots$Appointment")), Cond.classLink RX4 142 "java/util/NoSuchElementException", Cond.initialized "java/util/NoSuchElementException", Cond.fieldLink RX4 86 "DockyardSlots" "appointmentCount" "I", Cond.fieldLink RX4 24 "DockyardSlots" "appointments" "[LDockyardSlots$Appointment;", Cond.methodLink RX4 202 yX4_homeOrThrow, Cond.static yX4_homeOrThrow, Cond.code yX4_homeOrThrow cX4_homeOrThrow 2 (some (.object "DockyardSlots$Lane")), Cond.classLink RX4 58 "java/lang/IllegalStateException", Cond.initialized "java/lang/IllegalStateException"]
def wsL_fewestMoves_r2 : List Cond := [Cond.fieldLink RX4 252 "DockyardSlots$Appointment" "lane" "LDockyardSlots$Lane;", Cond.methodLink RX4 213 yX4_isReachedWithin, Cond.static yX4_isReachedWithin, Cond.code yX4_isReachedWithin cX4_isReachedWithin 8 (some .boolean), Cond.fieldLink RX4 55 "DockyardSlots$LaneRow" "count" "I", Cond.methodLink RX4 205 yX2_countBefore, Cond.instanceMethod yX2_countBefore, Cond.selects RX2 yX2_countBefore yX2_countBefore, Cond.initialized RX2, Cond.code yX2_countBefore cX2_countBefore 2 (some .int), Cond.fieldLink RX2 28 "DockyardSlots$Lane" "count" "I", Cond.fieldLink RX2 39 "DockyardSlots$Appointment" "place" "I", Cond.methodLink RX4 260 yX3_allowMove, Cond.instanceMethod yX3_allowMove, Cond.selects RX3 yX3_allowMove yX3_allowMove, Cond.initialized RX3, Cond.code yX3_allowMove cX3_allowMove 6 (some .boolean), Cond.methodLink RX3 24 yX3_laneAt, Cond.instanceMethod yX3_laneAt, Cond.selects RX3 yX3_laneAt yX3_laneAt, Cond.code yX3_laneAt cX3_laneAt 2 (some (.object "DockyardSlots$Lane")), Cond.fieldLink RX3 17 "DockyardSlots$LaneRow" "count" "I", Cond.fieldLink RX3 11 "DockyardSlots$LaneRow" "lanes" "[LDockyardSlots$Lane;", Cond.methodLink RX3 29 yX2_fromExit]
def wsL_fewestMoves_r3 : List Cond := [Cond.instanceMethod yX2_fromExit, Cond.selects RX2 yX2_fromExit yX2_fromExit, Cond.code yX2_fromExit cX2_fromExit 2 (some (.object "DockyardSlots$Appointment")), Cond.fieldLink RX2 24 "DockyardSlots$Lane" "trailers" "[LDockyardSlots$Appointment;", Cond.methodLink RX3 33 yX2_canTake, Cond.instanceMethod yX2_canTake, Cond.selects RX2 yX2_canTake yX2_canTake, Cond.code yX2_canTake cX2_canTake 2 (some .boolean), Cond.fieldLink RX2 15 "DockyardSlots$Lane" "capacity" "I", Cond.fieldLink RX2 18 "DockyardSlots$Lane" "hasPower" "Z", Cond.fieldLink RX2 31 "DockyardSlots$Appointment" "kind" "C", Cond.methodLink RX4 264 yX3_moveNearest, Cond.instanceMethod yX3_moveNearest, Cond.selects RX3 yX3_moveNearest yX3_moveNearest, Cond.code yX3_moveNearest cX3_moveNearest 6 none, Cond.methodLink RX3 37 yX2_takeOut, Cond.instanceMethod yX2_takeOut, Cond.selects RX2 yX2_takeOut yX2_takeOut, Cond.code yX2_takeOut cX2_takeOut 2 (some (.object "DockyardSlots$Appointment")), Cond.fieldLink RX2 35 "DockyardSlots$Appointment" "lane" "LDockyardSlots$Lane;", Cond.methodLink RX2 42 yX2_fromExit, Cond.methodLink RX3 41 yX2_bringIn, Cond.instanceMethod yX2_bringIn, Cond.selects RX2 yX2_bringIn yX2_bringIn]
def wsL_fewestMoves_r4 : List Cond := [Cond.code yX2_bringIn cX2_bringIn 2 none]
def wsL_fewestMoves : List Cond := .codeWith yL_fewestMoves cL_fewestMoves 4 (some .int) [(0, 9, 12, 37), (0, 9, 15, 15), (0, 9, 18, 41)] :: ((wsL_fewestMoves_r1 ++ (wsL_fewestMoves_r2 ++ (wsL_fewestMoves_r3 ++ wsL_fewestMoves_r4))) ++ wsX40 ++ wsX00 ++ wsX30 ++ wsX20 ++ (vx_atM "java/lang/ArrayIndexOutOfBoundsException" ["java/lang/IndexOutOfBoundsException", "java/lang/RuntimeException", "java/lang/Exception"]).filter goodWord ++ (vx_atS RX4 124 "java/lang/UnsupportedOperationException" ["java/lang/RuntimeException", "java/lang/Exception"]).filter goodWord ++ (vx_atS RX4 146 "java/util/NoSuchElementException" ["java/lang/RuntimeException", "java/lang/Exception"]).filter goodWord ++ (vx_atS RX4 62 "java/lang/IllegalStateException" ["java/lang/RuntimeException", "java/lang/Exception"]).filter goodWord)
def wsL_fewestByOrders_r1 : List Cond := [Cond.classLink RL 37 "java/util/NoSuchElementException", Cond.classLink RL 15 "java/lang/IllegalStateException", Cond.classLink RL 41 "java/lang/UnsupportedOperationException", Cond.methodLink RL 79 yX4_fewestByOrders, Cond.instanceMethod yX4_fewestByOrders, Cond.selects RX4 yX4_fewestByOrders yX4_fewestByOrders, Cond.initialized RX4, Cond.code yX4_fewestByOrders cX4_fewestByOrders 5 (some .int), Cond.classLink RX4 120 "java/lang/UnsupportedOperationException", Cond.initialized "java/lang/UnsupportedOperationException", Cond.fieldLink RX4 10 "DockyardSlots" "lanes" "LDockyardSlots$LaneRow;", Cond.methodLink RX4 94 yX4_appointmentOrThrow, Cond.instanceMethod yX4_appointmentOrThrow, Cond.selects RX4 yX4_appointmentOrThrow yX4_appointmentOrThrow, Cond.code yX4_appointmentOrThrow cX4_appointmentOrThrow 3 (some (.object "DockyardSlots$Appointment")), Cond.classLink RX4 142 "java/util/NoSuchElementException", Cond.initialized "java/util/NoSuchElementException", Cond.fieldLink RX4 86 "DockyardSlots" "appointmentCount" "I", Cond.fieldLink RX4 24 "DockyardSlots" "appointments" "[LDockyardSlots$Appointment;", Cond.methodLink RX4 202 yX4_homeOrThrow, Cond.static yX4_homeOrThrow, Cond.code yX4_homeOrThrow cX4_homeOrThrow 2 (some (.object "DockyardSlots$Lane")), Cond.classLink RX4 58 "java/lang/IllegalStateException", Cond.initialized "java/lang/IllegalStateException"]
def wsL_fewestByOrders_r2 : List Cond := [Cond.fieldLink RX4 252 "DockyardSlots$Appointment" "lane" "LDockyardSlots$Lane;", Cond.methodLink RX4 219 yX4_bestOfOrders, Cond.static yX4_bestOfOrders, Cond.code yX4_bestOfOrders cX4_bestOfOrders 8 (some .int), Cond.methodLink RX4 268 Lib.Math.min.name, Cond.static Lib.Math.min.name, Cond.initialized "java/lang/Math", Cond.code Lib.Math.min.name Lib.Math.min.code 2 (some .int), Cond.fieldLink RX4 55 "DockyardSlots$LaneRow" "count" "I", Cond.methodLink RX4 205 yX2_countBefore, Cond.instanceMethod yX2_countBefore, Cond.selects RX2 yX2_countBefore yX2_countBefore, Cond.initialized RX2, Cond.code yX2_countBefore cX2_countBefore 2 (some .int), Cond.fieldLink RX2 28 "DockyardSlots$Lane" "count" "I", Cond.fieldLink RX2 39 "DockyardSlots$Appointment" "place" "I", Cond.methodLink RX4 260 yX3_allowMove, Cond.instanceMethod yX3_allowMove, Cond.selects RX3 yX3_allowMove yX3_allowMove, Cond.initialized RX3, Cond.code yX3_allowMove cX3_allowMove 6 (some .boolean), Cond.methodLink RX3 24 yX3_laneAt, Cond.instanceMethod yX3_laneAt, Cond.selects RX3 yX3_laneAt yX3_laneAt]
def wsL_fewestByOrders_r3 : List Cond := [Cond.code yX3_laneAt cX3_laneAt 2 (some (.object "DockyardSlots$Lane")), Cond.fieldLink RX3 17 "DockyardSlots$LaneRow" "count" "I", Cond.fieldLink RX3 11 "DockyardSlots$LaneRow" "lanes" "[LDockyardSlots$Lane;", Cond.methodLink RX3 29 yX2_fromExit, Cond.instanceMethod yX2_fromExit, Cond.selects RX2 yX2_fromExit yX2_fromExit, Cond.code yX2_fromExit cX2_fromExit 2 (some (.object "DockyardSlots$Appointment")), Cond.fieldLink RX2 24 "DockyardSlots$Lane" "trailers" "[LDockyardSlots$Appointment;", Cond.methodLink RX3 33 yX2_canTake, Cond.instanceMethod yX2_canTake, Cond.selects RX2 yX2_canTake yX2_canTake, Cond.code yX2_canTake cX2_canTake 2 (some .boolean), Cond.fieldLink RX2 15 "DockyardSlots$Lane" "capacity" "I", Cond.fieldLink RX2 18 "DockyardSlots$Lane" "hasPower" "Z", Cond.fieldLink RX2 31 "DockyardSlots$Appointment" "kind" "C", Cond.methodLink RX4 264 yX3_moveNearest, Cond.instanceMethod yX3_moveNearest, Cond.selects RX3 yX3_moveNearest yX3_moveNearest, Cond.code yX3_moveNearest cX3_moveNearest 6 none, Cond.methodLink RX3 37 yX2_takeOut, Cond.instanceMethod yX2_takeOut, Cond.selects RX2 yX2_takeOut yX2_takeOut, Cond.code yX2_takeOut cX2_takeOut 2 (some (.object "DockyardSlots$Appointment")), Cond.fieldLink RX2 35 "DockyardSlots$Appointment" "lane" "LDockyardSlots$Lane;"]
def wsL_fewestByOrders_r4 : List Cond := [Cond.methodLink RX2 42 yX2_fromExit, Cond.methodLink RX3 41 yX2_bringIn, Cond.instanceMethod yX2_bringIn, Cond.selects RX2 yX2_bringIn yX2_bringIn, Cond.code yX2_bringIn cX2_bringIn 2 none]
def wsL_fewestByOrders : List Cond := .codeWith yL_fewestByOrders cL_fewestByOrders 4 (some .int) [(0, 9, 12, 37), (0, 9, 15, 15), (0, 9, 18, 41)] :: ((wsL_fewestByOrders_r1 ++ (wsL_fewestByOrders_r2 ++ (wsL_fewestByOrders_r3 ++ wsL_fewestByOrders_r4))) ++ wsX40 ++ wsX00 ++ wsX30 ++ wsX20 ++ (vx_atM "java/lang/ArrayIndexOutOfBoundsException" ["java/lang/IndexOutOfBoundsException", "java/lang/RuntimeException", "java/lang/Exception"]).filter goodWord ++ (vx_atS RX4 124 "java/lang/UnsupportedOperationException" ["java/lang/RuntimeException", "java/lang/Exception"]).filter goodWord ++ (vx_atS RX4 146 "java/util/NoSuchElementException" ["java/lang/RuntimeException", "java/lang/Exception"]).filter goodWord ++ (vx_atS RX4 62 "java/lang/IllegalStateException" ["java/lang/RuntimeException", "java/lang/Exception"]).filter goodWord)
def wsL_pass : List Cond := .codeWith yL_pass cL_pass 4 (some .int) [(0, 9, 12, 13)] :: ([.classLink RL 13 "java/lang/IllegalArgumentException", .methodLink RL 82 yX4_pass, .instanceMethod yX4_pass, .selects RX4 yX4_pass yX4_pass, .initialized RX4, .code yX4_pass cX4_pass 5 (some .int), .classLink RX4 48 "java/lang/IllegalArgumentException", .initialized "java/lang/IllegalArgumentException", .fieldLink RX4 81 "DockyardSlots" "now" "I", .fieldLink RX4 86 "DockyardSlots" "appointmentCount" "I", .fieldLink RX4 24 "DockyardSlots" "appointments" "[LDockyardSlots$Appointment;", .fieldLink RX4 102 "DockyardSlots$Appointment" "state" "C", .fieldLink RX4 139 "DockyardSlots$Appointment" "hour" "I", .methodLink RX4 44 yX4_isOutside, .static yX4_isOutside, .code yX4_isOutside cX4_isOutside 3 (some .boolean)] ++ wsX40 ++ wsX00 ++ (vx_atM "java/lang/ArrayIndexOutOfBoundsException" ["java/lang/IndexOutOfBoundsException", "java/lang/RuntimeException", "java/lang/Exception"]).filter goodWord ++ (vx_atS RX4 52 "java/lang/IllegalArgumentException" ["java/lang/RuntimeException", "java/lang/Exception"]).filter goodWord)
def wsL_waited_r1 : List Cond := [Cond.classLink RL 37 "java/util/NoSuchElementException", Cond.classLink RL 15 "java/lang/IllegalStateException", Cond.methodLink RL 85 yX4_waited, Cond.instanceMethod yX4_waited, Cond.selects RX4 yX4_waited yX4_waited, Cond.initialized RX4, Cond.code yX4_waited cX4_waited 2 (some .int), Cond.methodLink RX4 136 yX4_arrivedOrThrow, Cond.instanceMethod yX4_arrivedOrThrow, Cond.selects RX4 yX4_arrivedOrThrow yX4_arrivedOrThrow, Cond.code yX4_arrivedOrThrow cX4_arrivedOrThrow 3 (some (.object "DockyardSlots$Appointment")), Cond.classLink RX4 58 "java/lang/IllegalStateException", Cond.initialized "java/lang/IllegalStateException", Cond.methodLink RX4 94 yX4_appointmentOrThrow, Cond.instanceMethod yX4_appointmentOrThrow, Cond.selects RX4 yX4_appointmentOrThrow yX4_appointmentOrThrow, Cond.code yX4_appointmentOrThrow cX4_appointmentOrThrow 3 (some (.object "DockyardSlots$Appointment")), Cond.classLink RX4 142 "java/util/NoSuchElementException", Cond.initialized "java/util/NoSuchElementException", Cond.fieldLink RX4 86 "DockyardSlots" "appointmentCount" "I", Cond.fieldLink RX4 24 "DockyardSlots" "appointments" "[LDockyardSlots$Appointment;", Cond.methodLink RX4 237 yX0_hasArrived, Cond.instanceMethod yX0_hasArrived, Cond.selects RX0 yX0_hasArrived yX0_hasArrived]
def wsL_waited_r2 : List Cond := [Cond.initialized RX0, Cond.code yX0_hasArrived cX0_hasArrived 1 (some .boolean), Cond.fieldLink RX0 25 "DockyardSlots$Appointment" "state" "C", Cond.methodLink RX4 225 yX4_waitingHours, Cond.instanceMethod yX4_waitingHours, Cond.selects RX4 yX4_waitingHours yX4_waitingHours, Cond.code yX4_waitingHours cX4_waitingHours 4 (some .int), Cond.fieldLink RX4 129 "DockyardSlots$Appointment" "arrivedAt" "I", Cond.fieldLink RX4 139 "DockyardSlots$Appointment" "hour" "I", Cond.methodLink RX4 274 Lib.Math.max.name, Cond.static Lib.Math.max.name, Cond.initialized "java/lang/Math", Cond.code Lib.Math.max.name Lib.Math.max.code 2 (some .int), Cond.fieldLink RX4 102 "DockyardSlots$Appointment" "state" "C", Cond.fieldLink RX4 81 "DockyardSlots" "now" "I", Cond.fieldLink RX4 184 "DockyardSlots$Appointment" "dockedAt" "I"]
def wsL_waited : List Cond := .codeWith yL_waited cL_waited 4 (some .int) [(0, 9, 12, 37), (0, 9, 15, 15)] :: ((wsL_waited_r1 ++ wsL_waited_r2) ++ wsX40 ++ wsX00 ++ (vx_atM "java/lang/ArrayIndexOutOfBoundsException" ["java/lang/IndexOutOfBoundsException", "java/lang/RuntimeException", "java/lang/Exception"]).filter goodWord ++ (vx_atS RX4 62 "java/lang/IllegalStateException" ["java/lang/RuntimeException", "java/lang/Exception"]).filter goodWord ++ (vx_atS RX4 146 "java/util/NoSuchElementException" ["java/lang/RuntimeException", "java/lang/Exception"]).filter goodWord)
def wsL_charge_r1 : List Cond := [Cond.classLink RL 37 "java/util/NoSuchElementException", Cond.classLink RL 15 "java/lang/IllegalStateException", Cond.methodLink RL 88 yX4_charge, Cond.instanceMethod yX4_charge, Cond.selects RX4 yX4_charge yX4_charge, Cond.initialized RX4, Cond.code yX4_charge cX4_charge 2 (some .int), Cond.methodLink RX4 136 yX4_arrivedOrThrow, Cond.instanceMethod yX4_arrivedOrThrow, Cond.selects RX4 yX4_arrivedOrThrow yX4_arrivedOrThrow, Cond.code yX4_arrivedOrThrow cX4_arrivedOrThrow 3 (some (.object "DockyardSlots$Appointment")), Cond.classLink RX4 58 "java/lang/IllegalStateException", Cond.initialized "java/lang/IllegalStateException", Cond.methodLink RX4 94 yX4_appointmentOrThrow, Cond.instanceMethod yX4_appointmentOrThrow, Cond.selects RX4 yX4_appointmentOrThrow yX4_appointmentOrThrow, Cond.code yX4_appointmentOrThrow cX4_appointmentOrThrow 3 (some (.object "DockyardSlots$Appointment")), Cond.classLink RX4 142 "java/util/NoSuchElementException", Cond.initialized "java/util/NoSuchElementException", Cond.fieldLink RX4 86 "DockyardSlots" "appointmentCount" "I", Cond.fieldLink RX4 24 "DockyardSlots" "appointments" "[LDockyardSlots$Appointment;", Cond.methodLink RX4 237 yX0_hasArrived, Cond.instanceMethod yX0_hasArrived, Cond.selects RX0 yX0_hasArrived yX0_hasArrived]
def wsL_charge_r2 : List Cond := [Cond.initialized RX0, Cond.code yX0_hasArrived cX0_hasArrived 1 (some .boolean), Cond.fieldLink RX0 25 "DockyardSlots$Appointment" "state" "C", Cond.methodLink RX4 194 yX4_chargeInSteps, Cond.instanceMethod yX4_chargeInSteps, Cond.selects RX4 yX4_chargeInSteps yX4_chargeInSteps, Cond.code yX4_chargeInSteps cX4_chargeInSteps 4 (some .int), Cond.fieldLink RX4 32 "DockyardSlots" "freeHours" "I", Cond.methodLink RX4 274 Lib.Math.max.name, Cond.static Lib.Math.max.name, Cond.initialized "java/lang/Math", Cond.code Lib.Math.max.name Lib.Math.max.code 2 (some .int), Cond.fieldLink RX4 38 "DockyardSlots" "firstHours" "I", Cond.methodLink RX4 268 Lib.Math.min.name, Cond.static Lib.Math.min.name, Cond.code Lib.Math.min.name Lib.Math.min.code 2 (some .int), Cond.fieldLink RX4 35 "DockyardSlots" "firstRate" "I", Cond.fieldLink RX4 41 "DockyardSlots" "secondRate" "I", Cond.methodLink RX4 132 yX4_punctualityOf, Cond.instanceMethod yX4_punctualityOf, Cond.selects RX4 yX4_punctualityOf yX4_punctualityOf, Cond.code yX4_punctualityOf cX4_punctualityOf 3 (some .char), Cond.fieldLink RX4 129 "DockyardSlots$Appointment" "arrivedAt" "I", Cond.fieldLink RX4 139 "DockyardSlots$Appointment" "hour" "I"]
def wsL_charge_r3 : List Cond := [Cond.fieldLink RX4 28 "DockyardSlots" "tolerance" "I", Cond.methodLink RX4 225 yX4_waitingHours, Cond.instanceMethod yX4_waitingHours, Cond.selects RX4 yX4_waitingHours yX4_waitingHours, Cond.code yX4_waitingHours cX4_waitingHours 4 (some .int), Cond.fieldLink RX4 102 "DockyardSlots$Appointment" "state" "C", Cond.fieldLink RX4 81 "DockyardSlots" "now" "I", Cond.fieldLink RX4 184 "DockyardSlots$Appointment" "dockedAt" "I"]
def wsL_charge : List Cond := .codeWith yL_charge cL_charge 4 (some .int) [(0, 9, 12, 37), (0, 9, 15, 15)] :: ((wsL_charge_r1 ++ (wsL_charge_r2 ++ wsL_charge_r3)) ++ wsX40 ++ wsX00 ++ (vx_atM "java/lang/ArrayIndexOutOfBoundsException" ["java/lang/IndexOutOfBoundsException", "java/lang/RuntimeException", "java/lang/Exception"]).filter goodWord ++ (vx_atS RX4 62 "java/lang/IllegalStateException" ["java/lang/RuntimeException", "java/lang/Exception"]).filter goodWord ++ (vx_atS RX4 146 "java/util/NoSuchElementException" ["java/lang/RuntimeException", "java/lang/Exception"]).filter goodWord)
def wsL_chargeByHours_r1 : List Cond := [Cond.classLink RL 37 "java/util/NoSuchElementException", Cond.classLink RL 15 "java/lang/IllegalStateException", Cond.methodLink RL 91 yX4_chargeByHours, Cond.instanceMethod yX4_chargeByHours, Cond.selects RX4 yX4_chargeByHours yX4_chargeByHours, Cond.initialized RX4, Cond.code yX4_chargeByHours cX4_chargeByHours 6 (some .int), Cond.methodLink RX4 136 yX4_arrivedOrThrow, Cond.instanceMethod yX4_arrivedOrThrow, Cond.selects RX4 yX4_arrivedOrThrow yX4_arrivedOrThrow, Cond.code yX4_arrivedOrThrow cX4_arrivedOrThrow 3 (some (.object "DockyardSlots$Appointment")), Cond.classLink RX4 58 "java/lang/IllegalStateException", Cond.initialized "java/lang/IllegalStateException", Cond.methodLink RX4 94 yX4_appointmentOrThrow, Cond.instanceMethod yX4_appointmentOrThrow, Cond.selects RX4 yX4_appointmentOrThrow yX4_appointmentOrThrow, Cond.code yX4_appointmentOrThrow cX4_appointmentOrThrow 3 (some (.object "DockyardSlots$Appointment")), Cond.classLink RX4 142 "java/util/NoSuchElementException", Cond.initialized "java/util/NoSuchElementException", Cond.fieldLink RX4 86 "DockyardSlots" "appointmentCount" "I", Cond.fieldLink RX4 24 "DockyardSlots" "appointments" "[LDockyardSlots$Appointment;", Cond.methodLink RX4 237 yX0_hasArrived, Cond.instanceMethod yX0_hasArrived, Cond.selects RX0 yX0_hasArrived yX0_hasArrived]
def wsL_chargeByHours_r2 : List Cond := [Cond.initialized RX0, Cond.code yX0_hasArrived cX0_hasArrived 1 (some .boolean), Cond.fieldLink RX0 25 "DockyardSlots$Appointment" "state" "C", Cond.methodLink RX4 132 yX4_punctualityOf, Cond.instanceMethod yX4_punctualityOf, Cond.selects RX4 yX4_punctualityOf yX4_punctualityOf, Cond.code yX4_punctualityOf cX4_punctualityOf 3 (some .char), Cond.fieldLink RX4 129 "DockyardSlots$Appointment" "arrivedAt" "I", Cond.fieldLink RX4 139 "DockyardSlots$Appointment" "hour" "I", Cond.fieldLink RX4 28 "DockyardSlots" "tolerance" "I", Cond.methodLink RX4 225 yX4_waitingHours, Cond.instanceMethod yX4_waitingHours, Cond.selects RX4 yX4_waitingHours yX4_waitingHours, Cond.code yX4_waitingHours cX4_waitingHours 4 (some .int), Cond.methodLink RX4 274 Lib.Math.max.name, Cond.static Lib.Math.max.name, Cond.initialized "java/lang/Math", Cond.code Lib.Math.max.name Lib.Math.max.code 2 (some .int), Cond.fieldLink RX4 102 "DockyardSlots$Appointment" "state" "C", Cond.fieldLink RX4 81 "DockyardSlots" "now" "I", Cond.fieldLink RX4 184 "DockyardSlots$Appointment" "dockedAt" "I", Cond.methodLink RX4 228 yX4_rateOfHour, Cond.instanceMethod yX4_rateOfHour, Cond.selects RX4 yX4_rateOfHour yX4_rateOfHour]
def wsL_chargeByHours_r3 : List Cond := [Cond.code yX4_rateOfHour cX4_rateOfHour 2 (some .int), Cond.fieldLink RX4 32 "DockyardSlots" "freeHours" "I", Cond.fieldLink RX4 38 "DockyardSlots" "firstHours" "I", Cond.fieldLink RX4 35 "DockyardSlots" "firstRate" "I", Cond.fieldLink RX4 41 "DockyardSlots" "secondRate" "I"]
def wsL_chargeByHours : List Cond := .codeWith yL_chargeByHours cL_chargeByHours 4 (some .int) [(0, 9, 12, 37), (0, 9, 15, 15)] :: ((wsL_chargeByHours_r1 ++ (wsL_chargeByHours_r2 ++ wsL_chargeByHours_r3)) ++ wsX40 ++ wsX00 ++ (vx_atM "java/lang/ArrayIndexOutOfBoundsException" ["java/lang/IndexOutOfBoundsException", "java/lang/RuntimeException", "java/lang/Exception"]).filter goodWord ++ (vx_atS RX4 62 "java/lang/IllegalStateException" ["java/lang/RuntimeException", "java/lang/Exception"]).filter goodWord ++ (vx_atS RX4 146 "java/util/NoSuchElementException" ["java/lang/RuntimeException", "java/lang/Exception"]).filter goodWord)
def wsL_usedShare : List Cond := .codeWith yL_usedShare cL_usedShare 3 (some .int) [(0, 8, 11, 98)] :: ([.classLink RL 98 "java/lang/ArithmeticException", .methodLink RL 94 yX4_usedShare, .instanceMethod yX4_usedShare, .selects RX4 yX4_usedShare yX4_usedShare, .initialized RX4, .code yX4_usedShare cX4_usedShare 4 (some .float), .classLink RX4 232 "java/lang/ArithmeticException", .initialized "java/lang/ArithmeticException", .fieldLink RX4 69 "DockyardSlots" "doorCount" "I", .fieldLink RX4 176 "DockyardSlots$Door" "isUsed" "Z", .methodLink RX4 164 yX4_doorAt, .instanceMethod yX4_doorAt, .selects RX4 yX4_doorAt yX4_doorAt, .code yX4_doorAt cX4_doorAt 2 (some (.object "DockyardSlots$Door")), .fieldLink RX4 18 "DockyardSlots" "doors" "[LDockyardSlots$Door;"] ++ wsX40 ++ wsX10 ++ (vx_atM "java/lang/ArrayIndexOutOfBoundsException" ["java/lang/IndexOutOfBoundsException", "java/lang/RuntimeException", "java/lang/Exception"]).filter goodWord ++ (vx_atS RX4 236 "java/lang/ArithmeticException" ["java/lang/RuntimeException", "java/lang/Exception"]).filter goodWord)
def wsL_meanWaiting_r1 : List Cond := [Cond.classLink RL 98 "java/lang/ArithmeticException", Cond.methodLink RL 100 yX4_meanWaiting, Cond.instanceMethod yX4_meanWaiting, Cond.selects RX4 yX4_meanWaiting yX4_meanWaiting, Cond.initialized RX4, Cond.code yX4_meanWaiting cX4_meanWaiting 5 (some .double), Cond.classLink RX4 232 "java/lang/ArithmeticException", Cond.initialized "java/lang/ArithmeticException", Cond.fieldLink RX4 86 "DockyardSlots" "appointmentCount" "I", Cond.fieldLink RX4 24 "DockyardSlots" "appointments" "[LDockyardSlots$Appointment;", Cond.methodLink RX4 237 yX0_hasArrived, Cond.instanceMethod yX0_hasArrived, Cond.selects RX0 yX0_hasArrived yX0_hasArrived, Cond.initialized RX0, Cond.code yX0_hasArrived cX0_hasArrived 1 (some .boolean), Cond.fieldLink RX0 25 "DockyardSlots$Appointment" "state" "C", Cond.methodLink RX4 225 yX4_waitingHours, Cond.instanceMethod yX4_waitingHours, Cond.selects RX4 yX4_waitingHours yX4_waitingHours, Cond.code yX4_waitingHours cX4_waitingHours 4 (some .int), Cond.fieldLink RX4 129 "DockyardSlots$Appointment" "arrivedAt" "I", Cond.fieldLink RX4 139 "DockyardSlots$Appointment" "hour" "I", Cond.methodLink RX4 274 Lib.Math.max.name, Cond.static Lib.Math.max.name]
def wsL_meanWaiting_r2 : List Cond := [Cond.initialized "java/lang/Math", Cond.code Lib.Math.max.name Lib.Math.max.code 2 (some .int), Cond.fieldLink RX4 102 "DockyardSlots$Appointment" "state" "C", Cond.fieldLink RX4 81 "DockyardSlots" "now" "I", Cond.fieldLink RX4 184 "DockyardSlots$Appointment" "dockedAt" "I"]
def wsL_meanWaiting : List Cond := .codeWith yL_meanWaiting cL_meanWaiting 3 (some .int) [(0, 7, 10, 98)] :: ((wsL_meanWaiting_r1 ++ wsL_meanWaiting_r2) ++ wsX40 ++ wsX00 ++ (vx_atM "java/lang/ArrayIndexOutOfBoundsException" ["java/lang/IndexOutOfBoundsException", "java/lang/RuntimeException", "java/lang/Exception"]).filter goodWord ++ (vx_atS RX4 236 "java/lang/ArithmeticException" ["java/lang/RuntimeException", "java/lang/Exception"]).filter goodWord)
abbrev vwCl : List vw_C := [(RJ0, TJ0, 2), (RJx00060, TJx00060, 6), (RX0, TX0, 10), (RX1, TX1, 2), (RX2, TX2, 5), (RX3, TX3, 2), (RX4, TX4, 13), (RX5, TX5, 25)]
end
section
theorem dX0_init_0 : decode cX0_init 0 = .ok (.aload_n 0, 1) := by decide +kernel
theorem dX0_init_1 : decode cX0_init 1 = .ok (.invokespecial 3, 3) := by decide +kernel
theorem dX0_init_4 : decode cX0_init 4 = .ok (.aload_n 0, 1) := by decide +kernel
theorem dX0_init_5 : decode cX0_init 5 = .ok (.iload_n 1, 1) := by decide +kernel
theorem dX0_init_6 : decode cX0_init 6 = .ok (.putfield 9, 3) := by decide +kernel
theorem dX0_init_9 : decode cX0_init 9 = .ok (.aload_n 0, 1) := by decide +kernel
theorem dX0_init_10 : decode cX0_init 10 = .ok (.iload_n 2, 1) := by decide +kernel
theorem dX0_init_11 : decode cX0_init 11 = .ok (.putfield 15, 3) := by decide +kernel
theorem dX0_init_14 : decode cX0_init 14 = .ok (.aload_n 0, 1) := by decide +kernel
theorem dX0_init_15 : decode cX0_init 15 = .ok (.iload_n 3, 1) := by decide +kernel
theorem dX0_init_16 : decode cX0_init 16 = .ok (.putfield 18, 3) := by decide +kernel
theorem dX0_init_19 : decode cX0_init 19 = .ok (.aload_n 0, 1) := by decide +kernel
theorem dX0_init_20 : decode cX0_init 20 = .ok (.iload 4, 2) := by decide +kernel
theorem dX0_init_22 : decode cX0_init 22 = .ok (.putfield 22, 3) := by decide +kernel
theorem dX0_init_25 : decode cX0_init 25 = .ok (.aload_n 0, 1) := by decide +kernel
theorem dX0_init_26 : decode cX0_init 26 = .ok (.bipush 98, 2) := by decide +kernel
theorem dX0_init_28 : decode cX0_init 28 = .ok (.putfield 25, 3) := by decide +kernel
theorem dX0_init_31 : decode cX0_init 31 = .ok (.return_, 1) := by decide +kernel
theorem dX0_hasArrived_0 : decode cX0_hasArrived 0 = .ok (.aload_n 0, 1) := by decide +kernel
theorem dX0_hasArrived_1 : decode cX0_hasArrived 1 = .ok (.getfield 25, 3) := by decide +kernel
theorem dX0_hasArrived_4 : decode cX0_hasArrived 4 = .ok (.bipush 98, 2) := by decide +kernel
theorem dX0_hasArrived_6 : decode cX0_hasArrived 6 = .ok (.if_icmp .eq 16, 3) := by decide +kernel
theorem dX0_hasArrived_9 : decode cX0_hasArrived 9 = .ok (.aload_n 0, 1) := by decide +kernel
theorem dX0_hasArrived_10 : decode cX0_hasArrived 10 = .ok (.getfield 25, 3) := by decide +kernel
theorem dX0_hasArrived_13 : decode cX0_hasArrived 13 = .ok (.bipush 110, 2) := by decide +kernel
theorem dX0_hasArrived_15 : decode cX0_hasArrived 15 = .ok (.if_icmp .eq 7, 3) := by decide +kernel
theorem dX0_hasArrived_18 : decode cX0_hasArrived 18 = .ok (.iconst 1, 1) := by decide +kernel
theorem dX0_hasArrived_19 : decode cX0_hasArrived 19 = .ok (.goto 4, 3) := by decide +kernel
theorem dX0_hasArrived_22 : decode cX0_hasArrived 22 = .ok (.iconst 0, 1) := by decide +kernel
theorem dX0_hasArrived_23 : decode cX0_hasArrived 23 = .ok (.ireturn, 1) := by decide +kernel
theorem dX0_doneAt_0 : decode cX0_doneAt 0 = .ok (.aload_n 0, 1) := by decide +kernel
theorem dX0_doneAt_1 : decode cX0_doneAt 1 = .ok (.getfield 28, 3) := by decide +kernel
theorem dX0_doneAt_4 : decode cX0_doneAt 4 = .ok (.aload_n 0, 1) := by decide +kernel
theorem dX0_doneAt_5 : decode cX0_doneAt 5 = .ok (.getfield 22, 3) := by decide +kernel
theorem dX0_doneAt_8 : decode cX0_doneAt 8 = .ok (.iadd, 1) := by decide +kernel
theorem dX0_doneAt_9 : decode cX0_doneAt 9 = .ok (.ireturn, 1) := by decide +kernel
theorem dX1_init_0 : decode cX1_init 0 = .ok (.aload_n 0, 1) := by decide +kernel
theorem dX1_init_1 : decode cX1_init 1 = .ok (.invokespecial 3, 3) := by decide +kernel
theorem dX1_init_4 : decode cX1_init 4 = .ok (.aload_n 0, 1) := by decide +kernel
theorem dX1_init_5 : decode cX1_init 5 = .ok (.iload_n 1, 1) := by decide +kernel
theorem dX1_init_6 : decode cX1_init 6 = .ok (.putfield 9, 3) := by decide +kernel
theorem dX1_init_9 : decode cX1_init 9 = .ok (.return_, 1) := by decide +kernel
theorem dX1_canTake_0 : decode cX1_canTake 0 = .ok (.aload_n 0, 1) := by decide +kernel
theorem dX1_canTake_1 : decode cX1_canTake 1 = .ok (.getfield 15, 3) := by decide +kernel
theorem dX1_canTake_4 : decode cX1_canTake 4 = .ok (.ifCond .ne 27, 3) := by decide +kernel
theorem dX1_canTake_7 : decode cX1_canTake 7 = .ok (.aload_n 0, 1) := by decide +kernel
theorem dX1_canTake_8 : decode cX1_canTake 8 = .ok (.getfield 9, 3) := by decide +kernel
theorem dX1_canTake_11 : decode cX1_canTake 11 = .ok (.bipush 98, 2) := by decide +kernel
theorem dX1_canTake_13 : decode cX1_canTake 13 = .ok (.if_icmp .eq 14, 3) := by decide +kernel
theorem dX1_canTake_16 : decode cX1_canTake 16 = .ok (.aload_n 0, 1) := by decide +kernel
theorem dX1_canTake_17 : decode cX1_canTake 17 = .ok (.getfield 9, 3) := by decide +kernel
theorem dX1_canTake_20 : decode cX1_canTake 20 = .ok (.aload_n 1, 1) := by decide +kernel
theorem dX1_canTake_21 : decode cX1_canTake 21 = .ok (.getfield 19, 3) := by decide +kernel
theorem dX1_canTake_24 : decode cX1_canTake 24 = .ok (.if_icmp .ne 7, 3) := by decide +kernel
theorem dX1_canTake_27 : decode cX1_canTake 27 = .ok (.iconst 1, 1) := by decide +kernel
theorem dX1_canTake_28 : decode cX1_canTake 28 = .ok (.goto 4, 3) := by decide +kernel
theorem dX1_canTake_31 : decode cX1_canTake 31 = .ok (.iconst 0, 1) := by decide +kernel
theorem dX1_canTake_32 : decode cX1_canTake 32 = .ok (.ireturn, 1) := by decide +kernel
theorem dX2_init_0 : decode cX2_init 0 = .ok (.aload_n 0, 1) := by decide +kernel
theorem dX2_init_1 : decode cX2_init 1 = .ok (.invokespecial 3, 3) := by decide +kernel
theorem dX2_init_4 : decode cX2_init 4 = .ok (.aload_n 0, 1) := by decide +kernel
theorem dX2_init_5 : decode cX2_init 5 = .ok (.iload_n 1, 1) := by decide +kernel
theorem dX2_init_6 : decode cX2_init 6 = .ok (.putfield 9, 3) := by decide +kernel
theorem dX2_init_9 : decode cX2_init 9 = .ok (.aload_n 0, 1) := by decide +kernel
theorem dX2_init_10 : decode cX2_init 10 = .ok (.iload_n 2, 1) := by decide +kernel
theorem dX2_init_11 : decode cX2_init 11 = .ok (.putfield 15, 3) := by decide +kernel
theorem dX2_init_14 : decode cX2_init 14 = .ok (.aload_n 0, 1) := by decide +kernel
theorem dX2_init_15 : decode cX2_init 15 = .ok (.iload_n 3, 1) := by decide +kernel
theorem dX2_init_16 : decode cX2_init 16 = .ok (.putfield 18, 3) := by decide +kernel
theorem dX2_init_19 : decode cX2_init 19 = .ok (.aload_n 0, 1) := by decide +kernel
theorem dX2_init_20 : decode cX2_init 20 = .ok (.iconst 3, 1) := by decide +kernel
theorem dX2_init_21 : decode cX2_init 21 = .ok (.anewarray 22, 3) := by decide +kernel
theorem dX2_init_24 : decode cX2_init 24 = .ok (.putfield 24, 3) := by decide +kernel
theorem dX2_init_27 : decode cX2_init 27 = .ok (.return_, 1) := by decide +kernel
theorem dX2_canTake_0 : decode cX2_canTake 0 = .ok (.aload_n 0, 1) := by decide +kernel
theorem dX2_canTake_1 : decode cX2_canTake 1 = .ok (.getfield 28, 3) := by decide +kernel
theorem dX2_canTake_4 : decode cX2_canTake 4 = .ok (.aload_n 0, 1) := by decide +kernel
theorem dX2_canTake_5 : decode cX2_canTake 5 = .ok (.getfield 15, 3) := by decide +kernel
theorem dX2_canTake_8 : decode cX2_canTake 8 = .ok (.if_icmp .ge 23, 3) := by decide +kernel
theorem dX2_canTake_11 : decode cX2_canTake 11 = .ok (.aload_n 0, 1) := by decide +kernel
theorem dX2_canTake_12 : decode cX2_canTake 12 = .ok (.getfield 18, 3) := by decide +kernel
theorem dX2_canTake_15 : decode cX2_canTake 15 = .ok (.ifCond .ne 12, 3) := by decide +kernel
theorem dX2_canTake_18 : decode cX2_canTake 18 = .ok (.aload_n 1, 1) := by decide +kernel
theorem dX2_canTake_19 : decode cX2_canTake 19 = .ok (.getfield 31, 3) := by decide +kernel
theorem dX2_canTake_22 : decode cX2_canTake 22 = .ok (.bipush 99, 2) := by decide +kernel
theorem dX2_canTake_24 : decode cX2_canTake 24 = .ok (.if_icmp .eq 7, 3) := by decide +kernel
theorem dX2_canTake_27 : decode cX2_canTake 27 = .ok (.iconst 1, 1) := by decide +kernel
theorem dX2_canTake_28 : decode cX2_canTake 28 = .ok (.goto 4, 3) := by decide +kernel
theorem dX2_canTake_31 : decode cX2_canTake 31 = .ok (.iconst 0, 1) := by decide +kernel
theorem dX2_canTake_32 : decode cX2_canTake 32 = .ok (.ireturn, 1) := by decide +kernel
theorem dX2_bringIn_0 : decode cX2_bringIn 0 = .ok (.aload_n 0, 1) := by decide +kernel
theorem dX2_bringIn_1 : decode cX2_bringIn 1 = .ok (.getfield 28, 3) := by decide +kernel
theorem dX2_bringIn_4 : decode cX2_bringIn 4 = .ok (.ifCond .lt 48, 3) := by decide +kernel
theorem dX2_bringIn_7 : decode cX2_bringIn 7 = .ok (.aload_n 0, 1) := by decide +kernel
theorem dX2_bringIn_8 : decode cX2_bringIn 8 = .ok (.getfield 28, 3) := by decide +kernel
theorem dX2_bringIn_11 : decode cX2_bringIn 11 = .ok (.aload_n 0, 1) := by decide +kernel
theorem dX2_bringIn_12 : decode cX2_bringIn 12 = .ok (.getfield 24, 3) := by decide +kernel
theorem dX2_bringIn_15 : decode cX2_bringIn 15 = .ok (.arraylength, 1) := by decide +kernel
theorem dX2_bringIn_16 : decode cX2_bringIn 16 = .ok (.if_icmp .ge 36, 3) := by decide +kernel
theorem dX2_bringIn_19 : decode cX2_bringIn 19 = .ok (.aload_n 0, 1) := by decide +kernel
theorem dX2_bringIn_20 : decode cX2_bringIn 20 = .ok (.getfield 24, 3) := by decide +kernel
theorem dX2_bringIn_23 : decode cX2_bringIn 23 = .ok (.aload_n 0, 1) := by decide +kernel
theorem dX2_bringIn_24 : decode cX2_bringIn 24 = .ok (.getfield 28, 3) := by decide +kernel
theorem dX2_bringIn_27 : decode cX2_bringIn 27 = .ok (.aload_n 1, 1) := by decide +kernel
theorem dX2_bringIn_28 : decode cX2_bringIn 28 = .ok (.aastore, 1) := by decide +kernel
theorem dX2_bringIn_29 : decode cX2_bringIn 29 = .ok (.aload_n 1, 1) := by decide +kernel
theorem dX2_bringIn_30 : decode cX2_bringIn 30 = .ok (.aload_n 0, 1) := by decide +kernel
theorem dX2_bringIn_31 : decode cX2_bringIn 31 = .ok (.putfield 35, 3) := by decide +kernel
theorem dX2_bringIn_34 : decode cX2_bringIn 34 = .ok (.aload_n 1, 1) := by decide +kernel
theorem dX2_bringIn_35 : decode cX2_bringIn 35 = .ok (.aload_n 0, 1) := by decide +kernel
theorem dX2_bringIn_36 : decode cX2_bringIn 36 = .ok (.getfield 28, 3) := by decide +kernel
theorem dX2_bringIn_39 : decode cX2_bringIn 39 = .ok (.putfield 39, 3) := by decide +kernel
theorem dX2_bringIn_42 : decode cX2_bringIn 42 = .ok (.aload_n 0, 1) := by decide +kernel
theorem dX2_bringIn_43 : decode cX2_bringIn 43 = .ok (.dup, 1) := by decide +kernel
theorem dX2_bringIn_44 : decode cX2_bringIn 44 = .ok (.getfield 28, 3) := by decide +kernel
theorem dX2_bringIn_47 : decode cX2_bringIn 47 = .ok (.iconst 1, 1) := by decide +kernel
theorem dX2_bringIn_48 : decode cX2_bringIn 48 = .ok (.iadd, 1) := by decide +kernel
theorem dX2_bringIn_49 : decode cX2_bringIn 49 = .ok (.putfield 28, 3) := by decide +kernel
theorem dX2_bringIn_52 : decode cX2_bringIn 52 = .ok (.return_, 1) := by decide +kernel
set_option maxRecDepth 20000 in
theorem ggX2_takeOut_X2_fromExit : GoodIn wsX2_takeOut wsX2_fromExit := goodIn_r _ [7, 1, 8, 9, 10, 11, 12, 13] (by decide +kernel) (by decide +kernel)
set_option maxRecDepth 20000 in
theorem gX2_takeOut_X2_fromExit : GoodIn wsX2_takeOut (wsV RX2 42 RX2 yX2_fromExit wsX2_fromExit) := goodIn_app (goodIn_of _ (by decide +kernel)) ggX2_takeOut_X2_fromExit
theorem dX2_takeOut_0 : decode cX2_takeOut 0 = .ok (.aload_n 0, 1) := by decide +kernel
theorem dX2_takeOut_1 : decode cX2_takeOut 1 = .ok (.iconst 0, 1) := by decide +kernel
theorem dX2_takeOut_2 : decode cX2_takeOut 2 = .ok (.invokevirtual 42, 3) := by decide +kernel
theorem dX2_takeOut_5 : decode cX2_takeOut 5 = .ok (.astore_n 1, 1) := by decide +kernel
theorem dX2_takeOut_6 : decode cX2_takeOut 6 = .ok (.aload_n 1, 1) := by decide +kernel
theorem dX2_takeOut_7 : decode cX2_takeOut 7 = .ok (.ifnull 18, 3) := by decide +kernel
theorem dX2_takeOut_10 : decode cX2_takeOut 10 = .ok (.aload_n 0, 1) := by decide +kernel
theorem dX2_takeOut_11 : decode cX2_takeOut 11 = .ok (.dup, 1) := by decide +kernel
theorem dX2_takeOut_12 : decode cX2_takeOut 12 = .ok (.getfield 28, 3) := by decide +kernel
theorem dX2_takeOut_15 : decode cX2_takeOut 15 = .ok (.iconst 1, 1) := by decide +kernel
theorem dX2_takeOut_16 : decode cX2_takeOut 16 = .ok (.isub, 1) := by decide +kernel
theorem dX2_takeOut_17 : decode cX2_takeOut 17 = .ok (.putfield 28, 3) := by decide +kernel
theorem dX2_takeOut_20 : decode cX2_takeOut 20 = .ok (.aload_n 1, 1) := by decide +kernel
theorem dX2_takeOut_21 : decode cX2_takeOut 21 = .ok (.aconst_null, 1) := by decide +kernel
theorem dX2_takeOut_22 : decode cX2_takeOut 22 = .ok (.putfield 35, 3) := by decide +kernel
theorem dX2_takeOut_25 : decode cX2_takeOut 25 = .ok (.aload_n 1, 1) := by decide +kernel
theorem dX2_takeOut_26 : decode cX2_takeOut 26 = .ok (.areturn, 1) := by decide +kernel
theorem dX2_fromExit_0 : decode cX2_fromExit 0 = .ok (.iload_n 1, 1) := by decide +kernel
theorem dX2_fromExit_1 : decode cX2_fromExit 1 = .ok (.ifCond .lt 23, 3) := by decide +kernel
theorem dX2_fromExit_4 : decode cX2_fromExit 4 = .ok (.iload_n 1, 1) := by decide +kernel
theorem dX2_fromExit_5 : decode cX2_fromExit 5 = .ok (.aload_n 0, 1) := by decide +kernel
theorem dX2_fromExit_6 : decode cX2_fromExit 6 = .ok (.getfield 28, 3) := by decide +kernel
theorem dX2_fromExit_9 : decode cX2_fromExit 9 = .ok (.if_icmp .ge 15, 3) := by decide +kernel
theorem dX2_fromExit_12 : decode cX2_fromExit 12 = .ok (.aload_n 0, 1) := by decide +kernel
theorem dX2_fromExit_13 : decode cX2_fromExit 13 = .ok (.getfield 28, 3) := by decide +kernel
theorem dX2_fromExit_16 : decode cX2_fromExit 16 = .ok (.aload_n 0, 1) := by decide +kernel
theorem dX2_fromExit_17 : decode cX2_fromExit 17 = .ok (.getfield 24, 3) := by decide +kernel
theorem dX2_fromExit_20 : decode cX2_fromExit 20 = .ok (.arraylength, 1) := by decide +kernel
theorem dX2_fromExit_21 : decode cX2_fromExit 21 = .ok (.if_icmp .le 5, 3) := by decide +kernel
theorem dX2_fromExit_24 : decode cX2_fromExit 24 = .ok (.aconst_null, 1) := by decide +kernel
theorem dX2_fromExit_25 : decode cX2_fromExit 25 = .ok (.areturn, 1) := by decide +kernel
theorem dX2_fromExit_26 : decode cX2_fromExit 26 = .ok (.aload_n 0, 1) := by decide +kernel
theorem dX2_fromExit_27 : decode cX2_fromExit 27 = .ok (.getfield 24, 3) := by decide +kernel
theorem dX2_fromExit_30 : decode cX2_fromExit 30 = .ok (.aload_n 0, 1) := by decide +kernel
theorem dX2_fromExit_31 : decode cX2_fromExit 31 = .ok (.getfield 28, 3) := by decide +kernel
theorem dX2_fromExit_34 : decode cX2_fromExit 34 = .ok (.iconst 1, 1) := by decide +kernel
theorem dX2_fromExit_35 : decode cX2_fromExit 35 = .ok (.isub, 1) := by decide +kernel
theorem dX2_fromExit_36 : decode cX2_fromExit 36 = .ok (.iload_n 1, 1) := by decide +kernel
theorem dX2_fromExit_37 : decode cX2_fromExit 37 = .ok (.isub, 1) := by decide +kernel
theorem dX2_fromExit_38 : decode cX2_fromExit 38 = .ok (.aaload, 1) := by decide +kernel
theorem dX2_fromExit_39 : decode cX2_fromExit 39 = .ok (.areturn, 1) := by decide +kernel
theorem dX2_countBefore_0 : decode cX2_countBefore 0 = .ok (.aload_n 0, 1) := by decide +kernel
theorem dX2_countBefore_1 : decode cX2_countBefore 1 = .ok (.getfield 28, 3) := by decide +kernel
theorem dX2_countBefore_4 : decode cX2_countBefore 4 = .ok (.iconst 1, 1) := by decide +kernel
theorem dX2_countBefore_5 : decode cX2_countBefore 5 = .ok (.isub, 1) := by decide +kernel
theorem dX2_countBefore_6 : decode cX2_countBefore 6 = .ok (.aload_n 1, 1) := by decide +kernel
theorem dX2_countBefore_7 : decode cX2_countBefore 7 = .ok (.getfield 39, 3) := by decide +kernel
theorem dX2_countBefore_10 : decode cX2_countBefore 10 = .ok (.isub, 1) := by decide +kernel
theorem dX2_countBefore_11 : decode cX2_countBefore 11 = .ok (.ireturn, 1) := by decide +kernel
theorem dX3_init_0 : decode cX3_init 0 = .ok (.aload_n 0, 1) := by decide +kernel
theorem dX3_init_1 : decode cX3_init 1 = .ok (.invokespecial 3, 3) := by decide +kernel
theorem dX3_init_4 : decode cX3_init 4 = .ok (.aload_n 0, 1) := by decide +kernel
theorem dX3_init_5 : decode cX3_init 5 = .ok (.iconst 4, 1) := by decide +kernel
theorem dX3_init_6 : decode cX3_init 6 = .ok (.anewarray 9, 3) := by decide +kernel
theorem dX3_init_9 : decode cX3_init 9 = .ok (.putfield 11, 3) := by decide +kernel
theorem dX3_init_12 : decode cX3_init 12 = .ok (.return_, 1) := by decide +kernel
set_option maxRecDepth 20000 in
theorem ggX3_append_X2_init : GoodIn wsX3_append wsX2_init := goodIn_r _ [8, 9, 10, 11, 12, 13, 14, 15, 16, 19, 20, 21, 22, 23] (by decide +kernel) (by decide +kernel)
set_option maxRecDepth 20000 in
theorem gX3_append_X2_init : GoodIn wsX3_append (wsX2_init) := ggX3_append_X2_init
theorem dX3_append_0 : decode cX3_append 0 = .ok (.aload_n 0, 1) := by decide +kernel
theorem dX3_append_1 : decode cX3_append 1 = .ok (.getfield 17, 3) := by decide +kernel
theorem dX3_append_4 : decode cX3_append 4 = .ok (.istore_n 3, 1) := by decide +kernel
theorem dX3_append_5 : decode cX3_append 5 = .ok (.iload_n 3, 1) := by decide +kernel
theorem dX3_append_6 : decode cX3_append 6 = .ok (.ifCond .lt 38, 3) := by decide +kernel
theorem dX3_append_9 : decode cX3_append 9 = .ok (.iload_n 3, 1) := by decide +kernel
theorem dX3_append_10 : decode cX3_append 10 = .ok (.aload_n 0, 1) := by decide +kernel
theorem dX3_append_11 : decode cX3_append 11 = .ok (.getfield 11, 3) := by decide +kernel
theorem dX3_append_14 : decode cX3_append 14 = .ok (.arraylength, 1) := by decide +kernel
theorem dX3_append_15 : decode cX3_append 15 = .ok (.if_icmp .ge 29, 3) := by decide +kernel
theorem dX3_append_18 : decode cX3_append 18 = .ok (.aload_n 0, 1) := by decide +kernel
theorem dX3_append_19 : decode cX3_append 19 = .ok (.getfield 11, 3) := by decide +kernel
theorem dX3_append_22 : decode cX3_append 22 = .ok (.iload_n 3, 1) := by decide +kernel
theorem dX3_append_23 : decode cX3_append 23 = .ok (.new 9, 3) := by decide +kernel
theorem dX3_append_26 : decode cX3_append 26 = .ok (.dup, 1) := by decide +kernel
theorem dX3_append_27 : decode cX3_append 27 = .ok (.iload_n 3, 1) := by decide +kernel
theorem dX3_append_28 : decode cX3_append 28 = .ok (.iload_n 1, 1) := by decide +kernel
theorem dX3_append_29 : decode cX3_append 29 = .ok (.iload_n 2, 1) := by decide +kernel
theorem dX3_append_30 : decode cX3_append 30 = .ok (.invokespecial 21, 3) := by decide +kernel
theorem dX3_append_33 : decode cX3_append 33 = .ok (.aastore, 1) := by decide +kernel
theorem dX3_append_34 : decode cX3_append 34 = .ok (.aload_n 0, 1) := by decide +kernel
theorem dX3_append_35 : decode cX3_append 35 = .ok (.dup, 1) := by decide +kernel
theorem dX3_append_36 : decode cX3_append 36 = .ok (.getfield 17, 3) := by decide +kernel
theorem dX3_append_39 : decode cX3_append 39 = .ok (.iconst 1, 1) := by decide +kernel
theorem dX3_append_40 : decode cX3_append 40 = .ok (.iadd, 1) := by decide +kernel
theorem dX3_append_41 : decode cX3_append 41 = .ok (.putfield 17, 3) := by decide +kernel
theorem dX3_append_44 : decode cX3_append 44 = .ok (.iload_n 3, 1) := by decide +kernel
theorem dX3_append_45 : decode cX3_append 45 = .ok (.ireturn, 1) := by decide +kernel
theorem dX3_laneAt_0 : decode cX3_laneAt 0 = .ok (.iload_n 1, 1) := by decide +kernel
theorem dX3_laneAt_1 : decode cX3_laneAt 1 = .ok (.ifCond .lt 20, 3) := by decide +kernel
theorem dX3_laneAt_4 : decode cX3_laneAt 4 = .ok (.iload_n 1, 1) := by decide +kernel
theorem dX3_laneAt_5 : decode cX3_laneAt 5 = .ok (.aload_n 0, 1) := by decide +kernel
theorem dX3_laneAt_6 : decode cX3_laneAt 6 = .ok (.getfield 17, 3) := by decide +kernel
theorem dX3_laneAt_9 : decode cX3_laneAt 9 = .ok (.if_icmp .ge 12, 3) := by decide +kernel
theorem dX3_laneAt_12 : decode cX3_laneAt 12 = .ok (.iload_n 1, 1) := by decide +kernel
theorem dX3_laneAt_13 : decode cX3_laneAt 13 = .ok (.aload_n 0, 1) := by decide +kernel
theorem dX3_laneAt_14 : decode cX3_laneAt 14 = .ok (.getfield 11, 3) := by decide +kernel
theorem dX3_laneAt_17 : decode cX3_laneAt 17 = .ok (.arraylength, 1) := by decide +kernel
theorem dX3_laneAt_18 : decode cX3_laneAt 18 = .ok (.if_icmp .lt 5, 3) := by decide +kernel
theorem dX3_laneAt_21 : decode cX3_laneAt 21 = .ok (.aconst_null, 1) := by decide +kernel
theorem dX3_laneAt_22 : decode cX3_laneAt 22 = .ok (.areturn, 1) := by decide +kernel
theorem dX3_laneAt_23 : decode cX3_laneAt 23 = .ok (.aload_n 0, 1) := by decide +kernel
theorem dX3_laneAt_24 : decode cX3_laneAt 24 = .ok (.getfield 11, 3) := by decide +kernel
theorem dX3_laneAt_27 : decode cX3_laneAt 27 = .ok (.iload_n 1, 1) := by decide +kernel
theorem dX3_laneAt_28 : decode cX3_laneAt 28 = .ok (.aaload, 1) := by decide +kernel
theorem dX3_laneAt_29 : decode cX3_laneAt 29 = .ok (.areturn, 1) := by decide +kernel
set_option maxRecDepth 20000 in
theorem ggX3_trailerCount_X3_laneAt : GoodIn wsX3_trailerCount wsX3_laneAt := goodIn_r _ [7, 1, 8, 9, 10] (by decide +kernel) (by decide +kernel)
set_option maxRecDepth 20000 in
theorem gX3_trailerCount_X3_laneAt : GoodIn wsX3_trailerCount (wsV RX3 24 RX3 yX3_laneAt wsX3_laneAt) := goodIn_app (goodIn_of _ (by decide +kernel)) ggX3_trailerCount_X3_laneAt
theorem dX3_trailerCount_0 : decode cX3_trailerCount 0 = .ok (.iconst 0, 1) := by decide +kernel
theorem dX3_trailerCount_1 : decode cX3_trailerCount 1 = .ok (.istore_n 1, 1) := by decide +kernel
theorem dX3_trailerCount_2 : decode cX3_trailerCount 2 = .ok (.iconst 0, 1) := by decide +kernel
theorem dX3_trailerCount_3 : decode cX3_trailerCount 3 = .ok (.istore_n 2, 1) := by decide +kernel
theorem dX3_trailerCount_4 : decode cX3_trailerCount 4 = .ok (.iload_n 2, 1) := by decide +kernel
theorem dX3_trailerCount_5 : decode cX3_trailerCount 5 = .ok (.aload_n 0, 1) := by decide +kernel
theorem dX3_trailerCount_6 : decode cX3_trailerCount 6 = .ok (.getfield 17, 3) := by decide +kernel
theorem dX3_trailerCount_9 : decode cX3_trailerCount 9 = .ok (.if_icmp .ge 26, 3) := by decide +kernel
theorem dX3_trailerCount_12 : decode cX3_trailerCount 12 = .ok (.aload_n 0, 1) := by decide +kernel
theorem dX3_trailerCount_13 : decode cX3_trailerCount 13 = .ok (.iload_n 2, 1) := by decide +kernel
theorem dX3_trailerCount_14 : decode cX3_trailerCount 14 = .ok (.invokevirtual 24, 3) := by decide +kernel
theorem dX3_trailerCount_17 : decode cX3_trailerCount 17 = .ok (.astore_n 3, 1) := by decide +kernel
theorem dX3_trailerCount_18 : decode cX3_trailerCount 18 = .ok (.aload_n 3, 1) := by decide +kernel
theorem dX3_trailerCount_19 : decode cX3_trailerCount 19 = .ok (.ifnull 10, 3) := by decide +kernel
theorem dX3_trailerCount_22 : decode cX3_trailerCount 22 = .ok (.iload_n 1, 1) := by decide +kernel
theorem dX3_trailerCount_23 : decode cX3_trailerCount 23 = .ok (.aload_n 3, 1) := by decide +kernel
theorem dX3_trailerCount_24 : decode cX3_trailerCount 24 = .ok (.getfield 28, 3) := by decide +kernel
theorem dX3_trailerCount_27 : decode cX3_trailerCount 27 = .ok (.iadd, 1) := by decide +kernel
theorem dX3_trailerCount_28 : decode cX3_trailerCount 28 = .ok (.istore_n 1, 1) := by decide +kernel
theorem dX3_trailerCount_29 : decode cX3_trailerCount 29 = .ok (.iinc 2 1, 3) := by decide +kernel
theorem dX3_trailerCount_32 : decode cX3_trailerCount 32 = .ok (.goto (-28), 3) := by decide +kernel
theorem dX3_trailerCount_35 : decode cX3_trailerCount 35 = .ok (.iload_n 1, 1) := by decide +kernel
theorem dX3_trailerCount_36 : decode cX3_trailerCount 36 = .ok (.ireturn, 1) := by decide +kernel
set_option maxRecDepth 20000 in
theorem ggX3_allowMove_X3_laneAt : GoodIn wsX3_allowMove wsX3_laneAt := goodIn_r _ [5, 6, 7, 22, 23] (by decide +kernel) (by decide +kernel)
set_option maxRecDepth 20000 in
theorem gX3_allowMove_X3_laneAt : GoodIn wsX3_allowMove (wsV RX3 24 RX3 yX3_laneAt wsX3_laneAt) := goodIn_app (goodIn_of _ (by decide +kernel)) ggX3_allowMove_X3_laneAt
set_option maxRecDepth 20000 in
theorem ggX3_allowMove_X2_fromExit : GoodIn wsX3_allowMove wsX2_fromExit := goodIn_r _ [12, 13, 14, 24, 25, 26, 27, 28] (by decide +kernel) (by decide +kernel)
set_option maxRecDepth 20000 in
theorem gX3_allowMove_X2_fromExit : GoodIn wsX3_allowMove (wsV RX3 29 RX2 yX2_fromExit wsX2_fromExit) := goodIn_app (goodIn_of _ (by decide +kernel)) ggX3_allowMove_X2_fromExit
set_option maxRecDepth 20000 in
theorem ggX3_allowMove_X2_canTake : GoodIn wsX3_allowMove wsX2_canTake := goodIn_r _ [18, 13, 19, 20, 21, 24, 25, 26, 27, 28, 29, 30, 31, 32, 33, 34, 35, 36, 37, 38] (by decide +kernel) (by decide +kernel)
set_option maxRecDepth 20000 in
theorem gX3_allowMove_X2_canTake : GoodIn wsX3_allowMove (wsV RX3 33 RX2 yX2_canTake wsX2_canTake) := goodIn_app (goodIn_of _ (by decide +kernel)) ggX3_allowMove_X2_canTake
theorem dX3_allowMove_0 : decode cX3_allowMove 0 = .ok (.aload_n 0, 1) := by decide +kernel
theorem dX3_allowMove_1 : decode cX3_allowMove 1 = .ok (.iload_n 1, 1) := by decide +kernel
theorem dX3_allowMove_2 : decode cX3_allowMove 2 = .ok (.invokevirtual 24, 3) := by decide +kernel
theorem dX3_allowMove_5 : decode cX3_allowMove 5 = .ok (.astore_n 3, 1) := by decide +kernel
theorem dX3_allowMove_6 : decode cX3_allowMove 6 = .ok (.aload_n 0, 1) := by decide +kernel
theorem dX3_allowMove_7 : decode cX3_allowMove 7 = .ok (.iload_n 2, 1) := by decide +kernel
theorem dX3_allowMove_8 : decode cX3_allowMove 8 = .ok (.invokevirtual 24, 3) := by decide +kernel
theorem dX3_allowMove_11 : decode cX3_allowMove 11 = .ok (.astore 4, 2) := by decide +kernel
theorem dX3_allowMove_13 : decode cX3_allowMove 13 = .ok (.iload_n 1, 1) := by decide +kernel
theorem dX3_allowMove_14 : decode cX3_allowMove 14 = .ok (.iload_n 2, 1) := by decide +kernel
theorem dX3_allowMove_15 : decode cX3_allowMove 15 = .ok (.if_icmp .eq 12, 3) := by decide +kernel
theorem dX3_allowMove_18 : decode cX3_allowMove 18 = .ok (.aload_n 3, 1) := by decide +kernel
theorem dX3_allowMove_19 : decode cX3_allowMove 19 = .ok (.ifnull 8, 3) := by decide +kernel
theorem dX3_allowMove_22 : decode cX3_allowMove 22 = .ok (.aload 4, 2) := by decide +kernel
theorem dX3_allowMove_24 : decode cX3_allowMove 24 = .ok (.ifnonnull 5, 3) := by decide +kernel
theorem dX3_allowMove_27 : decode cX3_allowMove 27 = .ok (.iconst 0, 1) := by decide +kernel
theorem dX3_allowMove_28 : decode cX3_allowMove 28 = .ok (.ireturn, 1) := by decide +kernel
theorem dX3_allowMove_29 : decode cX3_allowMove 29 = .ok (.aload_n 3, 1) := by decide +kernel
theorem dX3_allowMove_30 : decode cX3_allowMove 30 = .ok (.iconst 0, 1) := by decide +kernel
theorem dX3_allowMove_31 : decode cX3_allowMove 31 = .ok (.invokevirtual 29, 3) := by decide +kernel
theorem dX3_allowMove_34 : decode cX3_allowMove 34 = .ok (.astore 5, 2) := by decide +kernel
theorem dX3_allowMove_36 : decode cX3_allowMove 36 = .ok (.aload 5, 2) := by decide +kernel
theorem dX3_allowMove_38 : decode cX3_allowMove 38 = .ok (.ifnull 17, 3) := by decide +kernel
theorem dX3_allowMove_41 : decode cX3_allowMove 41 = .ok (.aload 4, 2) := by decide +kernel
theorem dX3_allowMove_43 : decode cX3_allowMove 43 = .ok (.aload 5, 2) := by decide +kernel
theorem dX3_allowMove_45 : decode cX3_allowMove 45 = .ok (.invokevirtual 33, 3) := by decide +kernel
theorem dX3_allowMove_48 : decode cX3_allowMove 48 = .ok (.ifCond .eq 7, 3) := by decide +kernel
theorem dX3_allowMove_51 : decode cX3_allowMove 51 = .ok (.iconst 1, 1) := by decide +kernel
theorem dX3_allowMove_52 : decode cX3_allowMove 52 = .ok (.goto 4, 3) := by decide +kernel
theorem dX3_allowMove_55 : decode cX3_allowMove 55 = .ok (.iconst 0, 1) := by decide +kernel
theorem dX3_allowMove_56 : decode cX3_allowMove 56 = .ok (.ireturn, 1) := by decide +kernel
set_option maxRecDepth 20000 in
theorem ggX3_moveNearest_X3_laneAt : GoodIn wsX3_moveNearest wsX3_laneAt := goodIn_r _ [5, 6, 7, 25, 26] (by decide +kernel) (by decide +kernel)
set_option maxRecDepth 20000 in
theorem gX3_moveNearest_X3_laneAt : GoodIn wsX3_moveNearest (wsV RX3 24 RX3 yX3_laneAt wsX3_laneAt) := goodIn_app (goodIn_of _ (by decide +kernel)) ggX3_moveNearest_X3_laneAt
set_option maxRecDepth 20000 in
theorem ggX3_moveNearest_X2_takeOut : GoodIn wsX3_moveNearest wsX2_takeOut := goodIn_r _ [12, 13, 14, 15, 16, 17, 11, 18, 19, 27, 28, 29, 30, 31, 32, 33, 34, 35, 36, 37, 38, 39, 40, 41] (by decide +kernel) (by decide +kernel)
set_option maxRecDepth 20000 in
theorem gX3_moveNearest_X2_takeOut : GoodIn wsX3_moveNearest (wsV RX3 37 RX2 yX2_takeOut wsX2_takeOut) := goodIn_app (goodIn_of _ (by decide +kernel)) ggX3_moveNearest_X2_takeOut
set_option maxRecDepth 20000 in
theorem ggX3_moveNearest_X2_bringIn : GoodIn wsX3_moveNearest wsX2_bringIn := goodIn_r _ [23, 13, 19, 14, 24, 27, 28, 29, 30, 31, 32, 33, 34, 35, 36, 37, 38, 39, 40, 41] (by decide +kernel) (by decide +kernel)
set_option maxRecDepth 20000 in
theorem gX3_moveNearest_X2_bringIn : GoodIn wsX3_moveNearest (wsV RX3 41 RX2 yX2_bringIn wsX2_bringIn) := goodIn_app (goodIn_of _ (by decide +kernel)) ggX3_moveNearest_X2_bringIn
theorem dX3_moveNearest_0 : decode cX3_moveNearest 0 = .ok (.aload_n 0, 1) := by decide +kernel
theorem dX3_moveNearest_1 : decode cX3_moveNearest 1 = .ok (.iload_n 1, 1) := by decide +kernel
theorem dX3_moveNearest_2 : decode cX3_moveNearest 2 = .ok (.invokevirtual 24, 3) := by decide +kernel
theorem dX3_moveNearest_5 : decode cX3_moveNearest 5 = .ok (.astore_n 3, 1) := by decide +kernel
theorem dX3_moveNearest_6 : decode cX3_moveNearest 6 = .ok (.aload_n 0, 1) := by decide +kernel
theorem dX3_moveNearest_7 : decode cX3_moveNearest 7 = .ok (.iload_n 2, 1) := by decide +kernel
theorem dX3_moveNearest_8 : decode cX3_moveNearest 8 = .ok (.invokevirtual 24, 3) := by decide +kernel
theorem dX3_moveNearest_11 : decode cX3_moveNearest 11 = .ok (.astore 4, 2) := by decide +kernel
theorem dX3_moveNearest_13 : decode cX3_moveNearest 13 = .ok (.aload_n 3, 1) := by decide +kernel
theorem dX3_moveNearest_14 : decode cX3_moveNearest 14 = .ok (.ifnull 26, 3) := by decide +kernel
theorem dX3_moveNearest_17 : decode cX3_moveNearest 17 = .ok (.aload 4, 2) := by decide +kernel
theorem dX3_moveNearest_19 : decode cX3_moveNearest 19 = .ok (.ifnull 21, 3) := by decide +kernel
theorem dX3_moveNearest_22 : decode cX3_moveNearest 22 = .ok (.aload_n 3, 1) := by decide +kernel
theorem dX3_moveNearest_23 : decode cX3_moveNearest 23 = .ok (.invokevirtual 37, 3) := by decide +kernel
theorem dX3_moveNearest_26 : decode cX3_moveNearest 26 = .ok (.astore 5, 2) := by decide +kernel
theorem dX3_moveNearest_28 : decode cX3_moveNearest 28 = .ok (.aload 5, 2) := by decide +kernel
theorem dX3_moveNearest_30 : decode cX3_moveNearest 30 = .ok (.ifnull 10, 3) := by decide +kernel
theorem dX3_moveNearest_33 : decode cX3_moveNearest 33 = .ok (.aload 4, 2) := by decide +kernel
theorem dX3_moveNearest_35 : decode cX3_moveNearest 35 = .ok (.aload 5, 2) := by decide +kernel
theorem dX3_moveNearest_37 : decode cX3_moveNearest 37 = .ok (.invokevirtual 41, 3) := by decide +kernel
theorem dX3_moveNearest_40 : decode cX3_moveNearest 40 = .ok (.return_, 1) := by decide +kernel
theorem dJx00060_init_a7421_0 : decode cJx00060_init_a7421 0 = .ok (.aload_n 0, 1) := by decide +kernel
theorem dJx00060_init_a7421_1 : decode cJx00060_init_a7421 1 = .ok (.aload_n 1, 1) := by decide +kernel
theorem dJx00060_init_a7421_2 : decode cJx00060_init_a7421 2 = .ok (.invokespecial 7, 3) := by decide +kernel
theorem dJx00060_init_a7421_5 : decode cJx00060_init_a7421 5 = .ok (.return_, 1) := by decide +kernel
theorem dJ9_max_7cf53_0 : decode cJ9_max_7cf53 0 = .ok (.iload_n 0, 1) := by decide +kernel
theorem dJ9_max_7cf53_1 : decode cJ9_max_7cf53 1 = .ok (.iload_n 1, 1) := by decide +kernel
theorem dJ9_max_7cf53_2 : decode cJ9_max_7cf53 2 = .ok (.if_icmp .lt 7, 3) := by decide +kernel
theorem dJ9_max_7cf53_5 : decode cJ9_max_7cf53 5 = .ok (.iload_n 0, 1) := by decide +kernel
theorem dJ9_max_7cf53_6 : decode cJ9_max_7cf53 6 = .ok (.goto 4, 3) := by decide +kernel
theorem dJ9_max_7cf53_9 : decode cJ9_max_7cf53 9 = .ok (.iload_n 1, 1) := by decide +kernel
theorem dJ9_max_7cf53_10 : decode cJ9_max_7cf53 10 = .ok (.ireturn, 1) := by decide +kernel
theorem dJ9_min_7cf53_0 : decode cJ9_min_7cf53 0 = .ok (.iload_n 0, 1) := by decide +kernel
theorem dJ9_min_7cf53_1 : decode cJ9_min_7cf53 1 = .ok (.iload_n 1, 1) := by decide +kernel
theorem dJ9_min_7cf53_2 : decode cJ9_min_7cf53 2 = .ok (.if_icmp .gt 7, 3) := by decide +kernel
theorem dJ9_min_7cf53_5 : decode cJ9_min_7cf53 5 = .ok (.iload_n 0, 1) := by decide +kernel
theorem dJ9_min_7cf53_6 : decode cJ9_min_7cf53 6 = .ok (.goto 4, 3) := by decide +kernel
theorem dJ9_min_7cf53_9 : decode cJ9_min_7cf53 9 = .ok (.iload_n 1, 1) := by decide +kernel
theorem dJ9_min_7cf53_10 : decode cJ9_min_7cf53 10 = .ok (.ireturn, 1) := by decide +kernel
end
section
set_option maxRecDepth 20000 in
theorem ggX4_init_X3_init : GoodIn wsX4_init wsX3_init := goodIn_r _ [19, 20, 2, 3, 21, 22, 23, 24] (by decide +kernel) (by decide +kernel)
set_option maxRecDepth 20000 in
theorem gX4_init_X3_init : GoodIn wsX4_init (wsX3_init) := ggX4_init_X3_init
theorem dX4_init_0 : decode cX4_init 0 = .ok (.aload_n 0, 1) := by decide +kernel
theorem dX4_init_1 : decode cX4_init 1 = .ok (.invokespecial 1, 3) := by decide +kernel
theorem dX4_init_4 : decode cX4_init 4 = .ok (.aload_n 0, 1) := by decide +kernel
theorem dX4_init_5 : decode cX4_init 5 = .ok (.new 7, 3) := by decide +kernel
theorem dX4_init_8 : decode cX4_init 8 = .ok (.dup, 1) := by decide +kernel
theorem dX4_init_9 : decode cX4_init 9 = .ok (.invokespecial 9, 3) := by decide +kernel
theorem dX4_init_12 : decode cX4_init 12 = .ok (.putfield 10, 3) := by decide +kernel
theorem dX4_init_15 : decode cX4_init 15 = .ok (.aload_n 0, 1) := by decide +kernel
theorem dX4_init_16 : decode cX4_init 16 = .ok (.iconst 4, 1) := by decide +kernel
theorem dX4_init_17 : decode cX4_init 17 = .ok (.anewarray 16, 3) := by decide +kernel
theorem dX4_init_20 : decode cX4_init 20 = .ok (.putfield 18, 3) := by decide +kernel
theorem dX4_init_23 : decode cX4_init 23 = .ok (.aload_n 0, 1) := by decide +kernel
theorem dX4_init_24 : decode cX4_init 24 = .ok (.bipush 40, 2) := by decide +kernel
theorem dX4_init_26 : decode cX4_init 26 = .ok (.anewarray 22, 3) := by decide +kernel
theorem dX4_init_29 : decode cX4_init 29 = .ok (.putfield 24, 3) := by decide +kernel
theorem dX4_init_32 : decode cX4_init 32 = .ok (.aload_n 0, 1) := by decide +kernel
theorem dX4_init_33 : decode cX4_init 33 = .ok (.iconst 1, 1) := by decide +kernel
theorem dX4_init_34 : decode cX4_init 34 = .ok (.putfield 28, 3) := by decide +kernel
theorem dX4_init_37 : decode cX4_init 37 = .ok (.aload_n 0, 1) := by decide +kernel
theorem dX4_init_38 : decode cX4_init 38 = .ok (.iconst 2, 1) := by decide +kernel
theorem dX4_init_39 : decode cX4_init 39 = .ok (.putfield 32, 3) := by decide +kernel
theorem dX4_init_42 : decode cX4_init 42 = .ok (.aload_n 0, 1) := by decide +kernel
theorem dX4_init_43 : decode cX4_init 43 = .ok (.bipush 30, 2) := by decide +kernel
theorem dX4_init_45 : decode cX4_init 45 = .ok (.putfield 35, 3) := by decide +kernel
theorem dX4_init_48 : decode cX4_init 48 = .ok (.aload_n 0, 1) := by decide +kernel
theorem dX4_init_49 : decode cX4_init 49 = .ok (.iconst 4, 1) := by decide +kernel
theorem dX4_init_50 : decode cX4_init 50 = .ok (.putfield 38, 3) := by decide +kernel
theorem dX4_init_53 : decode cX4_init 53 = .ok (.aload_n 0, 1) := by decide +kernel
theorem dX4_init_54 : decode cX4_init 54 = .ok (.bipush 50, 2) := by decide +kernel
theorem dX4_init_56 : decode cX4_init 56 = .ok (.putfield 41, 3) := by decide +kernel
theorem dX4_init_59 : decode cX4_init 59 = .ok (.return_, 1) := by decide +kernel
set_option maxRecDepth 20000 in
theorem ggX4_addLane_X4_isOutside : GoodIn wsX4_addLane wsX4_isOutside := goodIn_r _ [10] (by decide +kernel) (by decide +kernel)
set_option maxRecDepth 20000 in
theorem gX4_addLane_X4_isOutside : GoodIn wsX4_addLane (va_wsS RX4 44 yX4_isOutside wsX4_isOutside) := goodIn_app (goodIn_of _ (by decide +kernel)) ggX4_addLane_X4_isOutside
set_option maxRecDepth 20000 in
theorem ggX4_addLane_X3_append : GoodIn wsX4_addLane wsX3_append := goodIn_r _ [15, 16, 17, 18, 19, 20, 21, 22, 23, 24, 25, 26, 27, 28, 29, 30, 31, 45, 46, 47, 48, 49, 50, 51] (by decide +kernel) (by decide +kernel)
set_option maxRecDepth 20000 in
theorem gX4_addLane_X3_append : GoodIn wsX4_addLane (wsV RX4 63 RX3 yX3_append wsX3_append) := goodIn_app (goodIn_of _ (by decide +kernel)) ggX4_addLane_X3_append
theorem dX4_addLane_0 : decode cX4_addLane 0 = .ok (.iload_n 1, 1) := by decide +kernel
theorem dX4_addLane_1 : decode cX4_addLane 1 = .ok (.iconst 1, 1) := by decide +kernel
theorem dX4_addLane_2 : decode cX4_addLane 2 = .ok (.iconst 3, 1) := by decide +kernel
theorem dX4_addLane_3 : decode cX4_addLane 3 = .ok (.invokestatic 44, 3) := by decide +kernel
theorem dX4_addLane_6 : decode cX4_addLane 6 = .ok (.ifCond .eq 13, 3) := by decide +kernel
theorem dX4_addLane_9 : decode cX4_addLane 9 = .ok (.new 48, 3) := by decide +kernel
theorem dX4_addLane_12 : decode cX4_addLane 12 = .ok (.dup, 1) := by decide +kernel
theorem dX4_addLane_13 : decode cX4_addLane 13 = .ok (.ldc 50, 2) := by decide +kernel
theorem dX4_addLane_15 : decode cX4_addLane 15 = .ok (.invokespecial 52, 3) := by decide +kernel
theorem dX4_addLane_18 : decode cX4_addLane 18 = .ok (.athrow, 1) := by decide +kernel
theorem dX4_addLane_19 : decode cX4_addLane 19 = .ok (.aload_n 0, 1) := by decide +kernel
theorem dX4_addLane_20 : decode cX4_addLane 20 = .ok (.getfield 10, 3) := by decide +kernel
theorem dX4_addLane_23 : decode cX4_addLane 23 = .ok (.getfield 55, 3) := by decide +kernel
theorem dX4_addLane_26 : decode cX4_addLane 26 = .ok (.iconst 4, 1) := by decide +kernel
theorem dX4_addLane_27 : decode cX4_addLane 27 = .ok (.if_icmp .lt 13, 3) := by decide +kernel
theorem dX4_addLane_30 : decode cX4_addLane 30 = .ok (.new 58, 3) := by decide +kernel
theorem dX4_addLane_33 : decode cX4_addLane 33 = .ok (.dup, 1) := by decide +kernel
theorem dX4_addLane_34 : decode cX4_addLane 34 = .ok (.ldc 60, 2) := by decide +kernel
theorem dX4_addLane_36 : decode cX4_addLane 36 = .ok (.invokespecial 62, 3) := by decide +kernel
theorem dX4_addLane_39 : decode cX4_addLane 39 = .ok (.athrow, 1) := by decide +kernel
theorem dX4_addLane_40 : decode cX4_addLane 40 = .ok (.aload_n 0, 1) := by decide +kernel
theorem dX4_addLane_41 : decode cX4_addLane 41 = .ok (.getfield 10, 3) := by decide +kernel
theorem dX4_addLane_44 : decode cX4_addLane 44 = .ok (.iload_n 1, 1) := by decide +kernel
theorem dX4_addLane_45 : decode cX4_addLane 45 = .ok (.iload_n 2, 1) := by decide +kernel
theorem dX4_addLane_46 : decode cX4_addLane 46 = .ok (.invokevirtual 63, 3) := by decide +kernel
theorem dX4_addLane_49 : decode cX4_addLane 49 = .ok (.ireturn, 1) := by decide +kernel
set_option maxRecDepth 20000 in
theorem ggX4_addDoor_X1_init : GoodIn wsX4_addDoor wsX1_init := goodIn_r _ [12, 13, 14, 15, 16, 30, 31] (by decide +kernel) (by decide +kernel)
set_option maxRecDepth 20000 in
theorem gX4_addDoor_X1_init : GoodIn wsX4_addDoor (wsX1_init) := ggX4_addDoor_X1_init
theorem dX4_addDoor_0 : decode cX4_addDoor 0 = .ok (.iload_n 1, 1) := by decide +kernel
theorem dX4_addDoor_1 : decode cX4_addDoor 1 = .ok (.bipush 100, 2) := by decide +kernel
theorem dX4_addDoor_3 : decode cX4_addDoor 3 = .ok (.if_icmp .eq 25, 3) := by decide +kernel
theorem dX4_addDoor_6 : decode cX4_addDoor 6 = .ok (.iload_n 1, 1) := by decide +kernel
theorem dX4_addDoor_7 : decode cX4_addDoor 7 = .ok (.bipush 99, 2) := by decide +kernel
theorem dX4_addDoor_9 : decode cX4_addDoor 9 = .ok (.if_icmp .eq 19, 3) := by decide +kernel
theorem dX4_addDoor_12 : decode cX4_addDoor 12 = .ok (.iload_n 1, 1) := by decide +kernel
theorem dX4_addDoor_13 : decode cX4_addDoor 13 = .ok (.bipush 98, 2) := by decide +kernel
theorem dX4_addDoor_15 : decode cX4_addDoor 15 = .ok (.if_icmp .eq 13, 3) := by decide +kernel
theorem dX4_addDoor_18 : decode cX4_addDoor 18 = .ok (.new 48, 3) := by decide +kernel
theorem dX4_addDoor_21 : decode cX4_addDoor 21 = .ok (.dup, 1) := by decide +kernel
theorem dX4_addDoor_22 : decode cX4_addDoor 22 = .ok (.ldc 67, 2) := by decide +kernel
theorem dX4_addDoor_24 : decode cX4_addDoor 24 = .ok (.invokespecial 52, 3) := by decide +kernel
theorem dX4_addDoor_27 : decode cX4_addDoor 27 = .ok (.athrow, 1) := by decide +kernel
theorem dX4_addDoor_28 : decode cX4_addDoor 28 = .ok (.aload_n 0, 1) := by decide +kernel
theorem dX4_addDoor_29 : decode cX4_addDoor 29 = .ok (.getfield 69, 3) := by decide +kernel
theorem dX4_addDoor_32 : decode cX4_addDoor 32 = .ok (.ifCond .lt 15, 3) := by decide +kernel
theorem dX4_addDoor_35 : decode cX4_addDoor 35 = .ok (.aload_n 0, 1) := by decide +kernel
theorem dX4_addDoor_36 : decode cX4_addDoor 36 = .ok (.getfield 69, 3) := by decide +kernel
theorem dX4_addDoor_39 : decode cX4_addDoor 39 = .ok (.aload_n 0, 1) := by decide +kernel
theorem dX4_addDoor_40 : decode cX4_addDoor 40 = .ok (.getfield 18, 3) := by decide +kernel
theorem dX4_addDoor_43 : decode cX4_addDoor 43 = .ok (.arraylength, 1) := by decide +kernel
theorem dX4_addDoor_44 : decode cX4_addDoor 44 = .ok (.if_icmp .lt 13, 3) := by decide +kernel
theorem dX4_addDoor_47 : decode cX4_addDoor 47 = .ok (.new 58, 3) := by decide +kernel
theorem dX4_addDoor_50 : decode cX4_addDoor 50 = .ok (.dup, 1) := by decide +kernel
theorem dX4_addDoor_51 : decode cX4_addDoor 51 = .ok (.ldc 72, 2) := by decide +kernel
theorem dX4_addDoor_53 : decode cX4_addDoor 53 = .ok (.invokespecial 62, 3) := by decide +kernel
theorem dX4_addDoor_56 : decode cX4_addDoor 56 = .ok (.athrow, 1) := by decide +kernel
theorem dX4_addDoor_57 : decode cX4_addDoor 57 = .ok (.aload_n 0, 1) := by decide +kernel
theorem dX4_addDoor_58 : decode cX4_addDoor 58 = .ok (.getfield 69, 3) := by decide +kernel
theorem dX4_addDoor_61 : decode cX4_addDoor 61 = .ok (.istore_n 2, 1) := by decide +kernel
theorem dX4_addDoor_62 : decode cX4_addDoor 62 = .ok (.aload_n 0, 1) := by decide +kernel
theorem dX4_addDoor_63 : decode cX4_addDoor 63 = .ok (.getfield 18, 3) := by decide +kernel
theorem dX4_addDoor_66 : decode cX4_addDoor 66 = .ok (.iload_n 2, 1) := by decide +kernel
theorem dX4_addDoor_67 : decode cX4_addDoor 67 = .ok (.new 16, 3) := by decide +kernel
theorem dX4_addDoor_70 : decode cX4_addDoor 70 = .ok (.dup, 1) := by decide +kernel
theorem dX4_addDoor_71 : decode cX4_addDoor 71 = .ok (.iload_n 1, 1) := by decide +kernel
theorem dX4_addDoor_72 : decode cX4_addDoor 72 = .ok (.invokespecial 74, 3) := by decide +kernel
theorem dX4_addDoor_75 : decode cX4_addDoor 75 = .ok (.aastore, 1) := by decide +kernel
theorem dX4_addDoor_76 : decode cX4_addDoor 76 = .ok (.aload_n 0, 1) := by decide +kernel
theorem dX4_addDoor_77 : decode cX4_addDoor 77 = .ok (.dup, 1) := by decide +kernel
theorem dX4_addDoor_78 : decode cX4_addDoor 78 = .ok (.getfield 69, 3) := by decide +kernel
theorem dX4_addDoor_81 : decode cX4_addDoor 81 = .ok (.iconst 1, 1) := by decide +kernel
theorem dX4_addDoor_82 : decode cX4_addDoor 82 = .ok (.iadd, 1) := by decide +kernel
theorem dX4_addDoor_83 : decode cX4_addDoor 83 = .ok (.putfield 69, 3) := by decide +kernel
theorem dX4_addDoor_86 : decode cX4_addDoor 86 = .ok (.iload_n 2, 1) := by decide +kernel
theorem dX4_addDoor_87 : decode cX4_addDoor 87 = .ok (.ireturn, 1) := by decide +kernel
set_option maxRecDepth 20000 in
theorem ggX4_setTolerance_X4_isOutside : GoodIn wsX4_setTolerance wsX4_isOutside := goodIn_r _ [7] (by decide +kernel) (by decide +kernel)
set_option maxRecDepth 20000 in
theorem gX4_setTolerance_X4_isOutside : GoodIn wsX4_setTolerance (va_wsS RX4 44 yX4_isOutside wsX4_isOutside) := goodIn_app (goodIn_of _ (by decide +kernel)) ggX4_setTolerance_X4_isOutside
theorem dX4_setTolerance_0 : decode cX4_setTolerance 0 = .ok (.iload_n 1, 1) := by decide +kernel
theorem dX4_setTolerance_1 : decode cX4_setTolerance 1 = .ok (.iconst 0, 1) := by decide +kernel
theorem dX4_setTolerance_2 : decode cX4_setTolerance 2 = .ok (.bipush 9, 2) := by decide +kernel
theorem dX4_setTolerance_4 : decode cX4_setTolerance 4 = .ok (.invokestatic 44, 3) := by decide +kernel
theorem dX4_setTolerance_7 : decode cX4_setTolerance 7 = .ok (.ifCond .eq 13, 3) := by decide +kernel
theorem dX4_setTolerance_10 : decode cX4_setTolerance 10 = .ok (.new 48, 3) := by decide +kernel
theorem dX4_setTolerance_13 : decode cX4_setTolerance 13 = .ok (.dup, 1) := by decide +kernel
theorem dX4_setTolerance_14 : decode cX4_setTolerance 14 = .ok (.ldc 77, 2) := by decide +kernel
theorem dX4_setTolerance_16 : decode cX4_setTolerance 16 = .ok (.invokespecial 52, 3) := by decide +kernel
theorem dX4_setTolerance_19 : decode cX4_setTolerance 19 = .ok (.athrow, 1) := by decide +kernel
theorem dX4_setTolerance_20 : decode cX4_setTolerance 20 = .ok (.aload_n 0, 1) := by decide +kernel
theorem dX4_setTolerance_21 : decode cX4_setTolerance 21 = .ok (.getfield 28, 3) := by decide +kernel
theorem dX4_setTolerance_24 : decode cX4_setTolerance 24 = .ok (.istore_n 2, 1) := by decide +kernel
theorem dX4_setTolerance_25 : decode cX4_setTolerance 25 = .ok (.aload_n 0, 1) := by decide +kernel
theorem dX4_setTolerance_26 : decode cX4_setTolerance 26 = .ok (.iload_n 1, 1) := by decide +kernel
theorem dX4_setTolerance_27 : decode cX4_setTolerance 27 = .ok (.putfield 28, 3) := by decide +kernel
theorem dX4_setTolerance_30 : decode cX4_setTolerance 30 = .ok (.iload_n 2, 1) := by decide +kernel
theorem dX4_setTolerance_31 : decode cX4_setTolerance 31 = .ok (.ireturn, 1) := by decide +kernel
set_option maxRecDepth 20000 in
theorem ggX4_setCharges_X4_isOutside : GoodIn wsX4_setCharges wsX4_isOutside := goodIn_r _ [10] (by decide +kernel) (by decide +kernel)
set_option maxRecDepth 20000 in
theorem gX4_setCharges_X4_isOutside : GoodIn wsX4_setCharges (va_wsS RX4 44 yX4_isOutside wsX4_isOutside) := goodIn_app (goodIn_of _ (by decide +kernel)) ggX4_setCharges_X4_isOutside
theorem dX4_setCharges_0 : decode cX4_setCharges 0 = .ok (.iload_n 1, 1) := by decide +kernel
theorem dX4_setCharges_1 : decode cX4_setCharges 1 = .ok (.iconst 0, 1) := by decide +kernel
theorem dX4_setCharges_2 : decode cX4_setCharges 2 = .ok (.bipush 24, 2) := by decide +kernel
theorem dX4_setCharges_4 : decode cX4_setCharges 4 = .ok (.invokestatic 44, 3) := by decide +kernel
theorem dX4_setCharges_7 : decode cX4_setCharges 7 = .ok (.ifCond .ne 34, 3) := by decide +kernel
theorem dX4_setCharges_10 : decode cX4_setCharges 10 = .ok (.iload_n 2, 1) := by decide +kernel
theorem dX4_setCharges_11 : decode cX4_setCharges 11 = .ok (.iconst 0, 1) := by decide +kernel
theorem dX4_setCharges_12 : decode cX4_setCharges 12 = .ok (.bipush 99, 2) := by decide +kernel
theorem dX4_setCharges_14 : decode cX4_setCharges 14 = .ok (.invokestatic 44, 3) := by decide +kernel
theorem dX4_setCharges_17 : decode cX4_setCharges 17 = .ok (.ifCond .ne 24, 3) := by decide +kernel
theorem dX4_setCharges_20 : decode cX4_setCharges 20 = .ok (.iload_n 3, 1) := by decide +kernel
theorem dX4_setCharges_21 : decode cX4_setCharges 21 = .ok (.iconst 0, 1) := by decide +kernel
theorem dX4_setCharges_22 : decode cX4_setCharges 22 = .ok (.bipush 24, 2) := by decide +kernel
theorem dX4_setCharges_24 : decode cX4_setCharges 24 = .ok (.invokestatic 44, 3) := by decide +kernel
theorem dX4_setCharges_27 : decode cX4_setCharges 27 = .ok (.ifCond .ne 14, 3) := by decide +kernel
theorem dX4_setCharges_30 : decode cX4_setCharges 30 = .ok (.iload 4, 2) := by decide +kernel
theorem dX4_setCharges_32 : decode cX4_setCharges 32 = .ok (.iconst 0, 1) := by decide +kernel
theorem dX4_setCharges_33 : decode cX4_setCharges 33 = .ok (.bipush 99, 2) := by decide +kernel
theorem dX4_setCharges_35 : decode cX4_setCharges 35 = .ok (.invokestatic 44, 3) := by decide +kernel
theorem dX4_setCharges_38 : decode cX4_setCharges 38 = .ok (.ifCond .eq 13, 3) := by decide +kernel
theorem dX4_setCharges_41 : decode cX4_setCharges 41 = .ok (.new 48, 3) := by decide +kernel
theorem dX4_setCharges_44 : decode cX4_setCharges 44 = .ok (.dup, 1) := by decide +kernel
theorem dX4_setCharges_45 : decode cX4_setCharges 45 = .ok (.ldc 79, 2) := by decide +kernel
theorem dX4_setCharges_47 : decode cX4_setCharges 47 = .ok (.invokespecial 52, 3) := by decide +kernel
theorem dX4_setCharges_50 : decode cX4_setCharges 50 = .ok (.athrow, 1) := by decide +kernel
theorem dX4_setCharges_51 : decode cX4_setCharges 51 = .ok (.aload_n 0, 1) := by decide +kernel
theorem dX4_setCharges_52 : decode cX4_setCharges 52 = .ok (.getfield 32, 3) := by decide +kernel
theorem dX4_setCharges_55 : decode cX4_setCharges 55 = .ok (.istore 5, 2) := by decide +kernel
theorem dX4_setCharges_57 : decode cX4_setCharges 57 = .ok (.aload_n 0, 1) := by decide +kernel
theorem dX4_setCharges_58 : decode cX4_setCharges 58 = .ok (.iload_n 1, 1) := by decide +kernel
theorem dX4_setCharges_59 : decode cX4_setCharges 59 = .ok (.putfield 32, 3) := by decide +kernel
theorem dX4_setCharges_62 : decode cX4_setCharges 62 = .ok (.aload_n 0, 1) := by decide +kernel
theorem dX4_setCharges_63 : decode cX4_setCharges 63 = .ok (.iload_n 2, 1) := by decide +kernel
theorem dX4_setCharges_64 : decode cX4_setCharges 64 = .ok (.putfield 35, 3) := by decide +kernel
theorem dX4_setCharges_67 : decode cX4_setCharges 67 = .ok (.aload_n 0, 1) := by decide +kernel
theorem dX4_setCharges_68 : decode cX4_setCharges 68 = .ok (.iload_n 3, 1) := by decide +kernel
theorem dX4_setCharges_69 : decode cX4_setCharges 69 = .ok (.putfield 38, 3) := by decide +kernel
theorem dX4_setCharges_72 : decode cX4_setCharges 72 = .ok (.aload_n 0, 1) := by decide +kernel
theorem dX4_setCharges_73 : decode cX4_setCharges 73 = .ok (.iload 4, 2) := by decide +kernel
theorem dX4_setCharges_75 : decode cX4_setCharges 75 = .ok (.putfield 41, 3) := by decide +kernel
theorem dX4_setCharges_78 : decode cX4_setCharges 78 = .ok (.iload 5, 2) := by decide +kernel
theorem dX4_setCharges_80 : decode cX4_setCharges 80 = .ok (.ireturn, 1) := by decide +kernel
set_option maxRecDepth 20000 in
theorem ggX4_book_X4_isOutside : GoodIn wsX4_book wsX4_isOutside := goodIn_r _ [14] (by decide +kernel) (by decide +kernel)
set_option maxRecDepth 20000 in
theorem gX4_book_X4_isOutside : GoodIn wsX4_book (va_wsS RX4 44 yX4_isOutside wsX4_isOutside) := goodIn_app (goodIn_of _ (by decide +kernel)) ggX4_book_X4_isOutside
set_option maxRecDepth 20000 in
theorem ggX4_book_X0_init : GoodIn wsX4_book wsX0_init := goodIn_r _ [17, 18, 19, 20, 21, 22, 23, 24, 25, 39, 40, 41, 42, 43, 44, 45, 46, 47, 48] (by decide +kernel) (by decide +kernel)
set_option maxRecDepth 20000 in
theorem gX4_book_X0_init : GoodIn wsX4_book (wsX0_init) := ggX4_book_X0_init
theorem dX4_book_0 : decode cX4_book 0 = .ok (.iload_n 1, 1) := by decide +kernel
theorem dX4_book_1 : decode cX4_book 1 = .ok (.aload_n 0, 1) := by decide +kernel
theorem dX4_book_2 : decode cX4_book 2 = .ok (.getfield 81, 3) := by decide +kernel
theorem dX4_book_5 : decode cX4_book 5 = .ok (.sipush 999, 3) := by decide +kernel
theorem dX4_book_8 : decode cX4_book 8 = .ok (.invokestatic 44, 3) := by decide +kernel
theorem dX4_book_11 : decode cX4_book 11 = .ok (.ifCond .ne 13, 3) := by decide +kernel
theorem dX4_book_14 : decode cX4_book 14 = .ok (.iload_n 3, 1) := by decide +kernel
theorem dX4_book_15 : decode cX4_book 15 = .ok (.iconst 1, 1) := by decide +kernel
theorem dX4_book_16 : decode cX4_book 16 = .ok (.bipush 9, 2) := by decide +kernel
theorem dX4_book_18 : decode cX4_book 18 = .ok (.invokestatic 44, 3) := by decide +kernel
theorem dX4_book_21 : decode cX4_book 21 = .ok (.ifCond .eq 13, 3) := by decide +kernel
theorem dX4_book_24 : decode cX4_book 24 = .ok (.new 48, 3) := by decide +kernel
theorem dX4_book_27 : decode cX4_book 27 = .ok (.dup, 1) := by decide +kernel
theorem dX4_book_28 : decode cX4_book 28 = .ok (.ldc 84, 2) := by decide +kernel
theorem dX4_book_30 : decode cX4_book 30 = .ok (.invokespecial 52, 3) := by decide +kernel
theorem dX4_book_33 : decode cX4_book 33 = .ok (.athrow, 1) := by decide +kernel
theorem dX4_book_34 : decode cX4_book 34 = .ok (.iload_n 2, 1) := by decide +kernel
theorem dX4_book_35 : decode cX4_book 35 = .ok (.bipush 100, 2) := by decide +kernel
theorem dX4_book_37 : decode cX4_book 37 = .ok (.if_icmp .eq 19, 3) := by decide +kernel
theorem dX4_book_40 : decode cX4_book 40 = .ok (.iload_n 2, 1) := by decide +kernel
theorem dX4_book_41 : decode cX4_book 41 = .ok (.bipush 99, 2) := by decide +kernel
theorem dX4_book_43 : decode cX4_book 43 = .ok (.if_icmp .eq 13, 3) := by decide +kernel
theorem dX4_book_46 : decode cX4_book 46 = .ok (.new 48, 3) := by decide +kernel
theorem dX4_book_49 : decode cX4_book 49 = .ok (.dup, 1) := by decide +kernel
theorem dX4_book_50 : decode cX4_book 50 = .ok (.ldc 67, 2) := by decide +kernel
theorem dX4_book_52 : decode cX4_book 52 = .ok (.invokespecial 52, 3) := by decide +kernel
theorem dX4_book_55 : decode cX4_book 55 = .ok (.athrow, 1) := by decide +kernel
theorem dX4_book_56 : decode cX4_book 56 = .ok (.aload_n 0, 1) := by decide +kernel
theorem dX4_book_57 : decode cX4_book 57 = .ok (.getfield 86, 3) := by decide +kernel
theorem dX4_book_60 : decode cX4_book 60 = .ok (.ifCond .lt 15, 3) := by decide +kernel
theorem dX4_book_63 : decode cX4_book 63 = .ok (.aload_n 0, 1) := by decide +kernel
theorem dX4_book_64 : decode cX4_book 64 = .ok (.getfield 86, 3) := by decide +kernel
theorem dX4_book_67 : decode cX4_book 67 = .ok (.aload_n 0, 1) := by decide +kernel
theorem dX4_book_68 : decode cX4_book 68 = .ok (.getfield 24, 3) := by decide +kernel
theorem dX4_book_71 : decode cX4_book 71 = .ok (.arraylength, 1) := by decide +kernel
theorem dX4_book_72 : decode cX4_book 72 = .ok (.if_icmp .lt 13, 3) := by decide +kernel
theorem dX4_book_75 : decode cX4_book 75 = .ok (.new 58, 3) := by decide +kernel
theorem dX4_book_78 : decode cX4_book 78 = .ok (.dup, 1) := by decide +kernel
theorem dX4_book_79 : decode cX4_book 79 = .ok (.ldc 89, 2) := by decide +kernel
theorem dX4_book_81 : decode cX4_book 81 = .ok (.invokespecial 62, 3) := by decide +kernel
theorem dX4_book_84 : decode cX4_book 84 = .ok (.athrow, 1) := by decide +kernel
theorem dX4_book_85 : decode cX4_book 85 = .ok (.aload_n 0, 1) := by decide +kernel
theorem dX4_book_86 : decode cX4_book 86 = .ok (.getfield 86, 3) := by decide +kernel
theorem dX4_book_89 : decode cX4_book 89 = .ok (.istore 4, 2) := by decide +kernel
theorem dX4_book_91 : decode cX4_book 91 = .ok (.aload_n 0, 1) := by decide +kernel
theorem dX4_book_92 : decode cX4_book 92 = .ok (.getfield 24, 3) := by decide +kernel
theorem dX4_book_95 : decode cX4_book 95 = .ok (.iload 4, 2) := by decide +kernel
theorem dX4_book_97 : decode cX4_book 97 = .ok (.new 22, 3) := by decide +kernel
theorem dX4_book_100 : decode cX4_book 100 = .ok (.dup, 1) := by decide +kernel
theorem dX4_book_101 : decode cX4_book 101 = .ok (.iload 4, 2) := by decide +kernel
theorem dX4_book_103 : decode cX4_book 103 = .ok (.iload_n 1, 1) := by decide +kernel
theorem dX4_book_104 : decode cX4_book 104 = .ok (.iload_n 2, 1) := by decide +kernel
theorem dX4_book_105 : decode cX4_book 105 = .ok (.iload_n 3, 1) := by decide +kernel
theorem dX4_book_106 : decode cX4_book 106 = .ok (.invokespecial 91, 3) := by decide +kernel
theorem dX4_book_109 : decode cX4_book 109 = .ok (.aastore, 1) := by decide +kernel
theorem dX4_book_110 : decode cX4_book 110 = .ok (.aload_n 0, 1) := by decide +kernel
theorem dX4_book_111 : decode cX4_book 111 = .ok (.dup, 1) := by decide +kernel
theorem dX4_book_112 : decode cX4_book 112 = .ok (.getfield 86, 3) := by decide +kernel
theorem dX4_book_115 : decode cX4_book 115 = .ok (.iconst 1, 1) := by decide +kernel
theorem dX4_book_116 : decode cX4_book 116 = .ok (.iadd, 1) := by decide +kernel
theorem dX4_book_117 : decode cX4_book 117 = .ok (.putfield 86, 3) := by decide +kernel
theorem dX4_book_120 : decode cX4_book 120 = .ok (.iload 4, 2) := by decide +kernel
theorem dX4_book_122 : decode cX4_book 122 = .ok (.ireturn, 1) := by decide +kernel
set_option maxRecDepth 20000 in
theorem ggX4_arrive_X4_appointmentOrThrow : GoodIn wsX4_arrive wsX4_appointmentOrThrow := goodIn_ca (goodIn_r _ [13, 14, 15, 16, 17, 69, 70, 71, 72, 73, 74, 75, 76, 77, 78, 79, 80, 81] (by decide +kernel) (by decide +kernel)) (goodIn_sub (fun _ h => List.mem_cons_of_mem _ (List.mem_append_left _ (List.mem_append_right _ h))) (by decide +kernel))
set_option maxRecDepth 20000 in
theorem gX4_arrive_X4_appointmentOrThrow : GoodIn wsX4_arrive (wsV RX4 94 RX4 yX4_appointmentOrThrow wsX4_appointmentOrThrow) := goodIn_app (goodIn_of _ (by decide +kernel)) ggX4_arrive_X4_appointmentOrThrow
set_option maxRecDepth 20000 in
theorem ggX4_arrive_X4_laneOrThrow : GoodIn wsX4_arrive wsX4_laneOrThrow := goodIn_ca (goodIn_r _ [21, 22, 23, 6, 24, 25, 26, 27, 28, 29, 30, 69, 70, 71, 72, 73, 74, 75, 76, 77, 78, 79, 80, 81, 82, 83] (by decide +kernel) (by decide +kernel)) (goodIn_sub (fun _ h => List.mem_cons_of_mem _ (List.mem_append_right _ h)) (by decide +kernel))
set_option maxRecDepth 20000 in
theorem gX4_arrive_X4_laneOrThrow : GoodIn wsX4_arrive (wsV RX4 98 RX4 yX4_laneOrThrow wsX4_laneOrThrow) := goodIn_app (goodIn_of _ (by decide +kernel)) ggX4_arrive_X4_laneOrThrow
set_option maxRecDepth 20000 in
theorem ggX4_arrive_X3_trailerCount : GoodIn wsX4_arrive wsX3_trailerCount := goodIn_r _ [34, 29, 35, 36, 25, 26, 27, 28, 30, 82, 83, 84, 85, 86, 87, 88] (by decide +kernel) (by decide +kernel)
set_option maxRecDepth 20000 in
theorem gX4_arrive_X3_trailerCount : GoodIn wsX4_arrive (wsV RX4 108 RX3 yX3_trailerCount wsX3_trailerCount) := goodIn_app (goodIn_of _ (by decide +kernel)) ggX4_arrive_X3_trailerCount
set_option maxRecDepth 20000 in
theorem ggX4_arrive_X2_canTake : GoodIn wsX4_arrive wsX2_canTake := goodIn_r _ [41, 42, 43, 44, 45, 84, 85, 86, 87, 88, 59, 60, 61, 62, 63, 64, 65, 66, 67, 68] (by decide +kernel) (by decide +kernel)
set_option maxRecDepth 20000 in
theorem gX4_arrive_X2_canTake : GoodIn wsX4_arrive (wsV RX4 114 RX2 yX2_canTake wsX2_canTake) := goodIn_app (goodIn_of _ (by decide +kernel)) ggX4_arrive_X2_canTake
set_option maxRecDepth 20000 in
theorem ggX4_arrive_X2_bringIn : GoodIn wsX4_arrive wsX2_bringIn := goodIn_r _ [49, 42, 50, 51, 52, 84, 85, 86, 87, 88, 59, 60, 61, 62, 63, 64, 65, 66, 67, 68] (by decide +kernel) (by decide +kernel)
set_option maxRecDepth 20000 in
theorem gX4_arrive_X2_bringIn : GoodIn wsX4_arrive (wsV RX4 125 RX2 yX2_bringIn wsX2_bringIn) := goodIn_app (goodIn_of _ (by decide +kernel)) ggX4_arrive_X2_bringIn
set_option maxRecDepth 20000 in
theorem ggX4_arrive_X4_punctualityOf : GoodIn wsX4_arrive wsX4_punctualityOf := goodIn_r _ [56, 8, 57, 58, 59, 60, 61, 62, 63, 64, 65, 66, 67, 68, 69, 70, 71, 72, 73, 74, 75, 76, 77, 78, 79, 80, 81] (by decide +kernel) (by decide +kernel)
set_option maxRecDepth 20000 in
theorem gX4_arrive_X4_punctualityOf : GoodIn wsX4_arrive (wsV RX4 132 RX4 yX4_punctualityOf wsX4_punctualityOf) := goodIn_app (goodIn_of _ (by decide +kernel)) ggX4_arrive_X4_punctualityOf
theorem dX4_arrive_0 : decode cX4_arrive 0 = .ok (.aload_n 0, 1) := by decide +kernel
theorem dX4_arrive_1 : decode cX4_arrive 1 = .ok (.iload_n 1, 1) := by decide +kernel
theorem dX4_arrive_2 : decode cX4_arrive 2 = .ok (.invokevirtual 94, 3) := by decide +kernel
theorem dX4_arrive_5 : decode cX4_arrive 5 = .ok (.astore_n 3, 1) := by decide +kernel
theorem dX4_arrive_6 : decode cX4_arrive 6 = .ok (.aload_n 0, 1) := by decide +kernel
theorem dX4_arrive_7 : decode cX4_arrive 7 = .ok (.iload_n 2, 1) := by decide +kernel
theorem dX4_arrive_8 : decode cX4_arrive 8 = .ok (.invokevirtual 98, 3) := by decide +kernel
theorem dX4_arrive_11 : decode cX4_arrive 11 = .ok (.astore 4, 2) := by decide +kernel
theorem dX4_arrive_13 : decode cX4_arrive 13 = .ok (.aload_n 3, 1) := by decide +kernel
theorem dX4_arrive_14 : decode cX4_arrive 14 = .ok (.getfield 102, 3) := by decide +kernel
theorem dX4_arrive_17 : decode cX4_arrive 17 = .ok (.bipush 98, 2) := by decide +kernel
theorem dX4_arrive_19 : decode cX4_arrive 19 = .ok (.if_icmp .eq 13, 3) := by decide +kernel
theorem dX4_arrive_22 : decode cX4_arrive 22 = .ok (.new 58, 3) := by decide +kernel
theorem dX4_arrive_25 : decode cX4_arrive 25 = .ok (.dup, 1) := by decide +kernel
theorem dX4_arrive_26 : decode cX4_arrive 26 = .ok (.ldc 106, 2) := by decide +kernel
theorem dX4_arrive_28 : decode cX4_arrive 28 = .ok (.invokespecial 62, 3) := by decide +kernel
theorem dX4_arrive_31 : decode cX4_arrive 31 = .ok (.athrow, 1) := by decide +kernel
theorem dX4_arrive_32 : decode cX4_arrive 32 = .ok (.aload_n 0, 1) := by decide +kernel
theorem dX4_arrive_33 : decode cX4_arrive 33 = .ok (.getfield 10, 3) := by decide +kernel
theorem dX4_arrive_36 : decode cX4_arrive 36 = .ok (.invokevirtual 108, 3) := by decide +kernel
theorem dX4_arrive_39 : decode cX4_arrive 39 = .ok (.bipush 6, 2) := by decide +kernel
theorem dX4_arrive_41 : decode cX4_arrive 41 = .ok (.if_icmp .lt 13, 3) := by decide +kernel
theorem dX4_arrive_44 : decode cX4_arrive 44 = .ok (.new 58, 3) := by decide +kernel
theorem dX4_arrive_47 : decode cX4_arrive 47 = .ok (.dup, 1) := by decide +kernel
theorem dX4_arrive_48 : decode cX4_arrive 48 = .ok (.ldc 112, 2) := by decide +kernel
theorem dX4_arrive_50 : decode cX4_arrive 50 = .ok (.invokespecial 62, 3) := by decide +kernel
theorem dX4_arrive_53 : decode cX4_arrive 53 = .ok (.athrow, 1) := by decide +kernel
theorem dX4_arrive_54 : decode cX4_arrive 54 = .ok (.aload 4, 2) := by decide +kernel
theorem dX4_arrive_56 : decode cX4_arrive 56 = .ok (.aload_n 3, 1) := by decide +kernel
theorem dX4_arrive_57 : decode cX4_arrive 57 = .ok (.invokevirtual 114, 3) := by decide +kernel
theorem dX4_arrive_60 : decode cX4_arrive 60 = .ok (.ifCond .ne 13, 3) := by decide +kernel
theorem dX4_arrive_63 : decode cX4_arrive 63 = .ok (.new 120, 3) := by decide +kernel
theorem dX4_arrive_66 : decode cX4_arrive 66 = .ok (.dup, 1) := by decide +kernel
theorem dX4_arrive_67 : decode cX4_arrive 67 = .ok (.ldc 122, 2) := by decide +kernel
theorem dX4_arrive_69 : decode cX4_arrive 69 = .ok (.invokespecial 124, 3) := by decide +kernel
theorem dX4_arrive_72 : decode cX4_arrive 72 = .ok (.athrow, 1) := by decide +kernel
theorem dX4_arrive_73 : decode cX4_arrive 73 = .ok (.aload 4, 2) := by decide +kernel
theorem dX4_arrive_75 : decode cX4_arrive 75 = .ok (.aload_n 3, 1) := by decide +kernel
theorem dX4_arrive_76 : decode cX4_arrive 76 = .ok (.invokevirtual 125, 3) := by decide +kernel
theorem dX4_arrive_79 : decode cX4_arrive 79 = .ok (.aload_n 3, 1) := by decide +kernel
theorem dX4_arrive_80 : decode cX4_arrive 80 = .ok (.bipush 121, 2) := by decide +kernel
theorem dX4_arrive_82 : decode cX4_arrive 82 = .ok (.putfield 102, 3) := by decide +kernel
theorem dX4_arrive_85 : decode cX4_arrive 85 = .ok (.aload_n 3, 1) := by decide +kernel
theorem dX4_arrive_86 : decode cX4_arrive 86 = .ok (.aload_n 0, 1) := by decide +kernel
theorem dX4_arrive_87 : decode cX4_arrive 87 = .ok (.getfield 81, 3) := by decide +kernel
theorem dX4_arrive_90 : decode cX4_arrive 90 = .ok (.putfield 129, 3) := by decide +kernel
theorem dX4_arrive_93 : decode cX4_arrive 93 = .ok (.aload_n 0, 1) := by decide +kernel
theorem dX4_arrive_94 : decode cX4_arrive 94 = .ok (.aload_n 3, 1) := by decide +kernel
theorem dX4_arrive_95 : decode cX4_arrive 95 = .ok (.invokevirtual 132, 3) := by decide +kernel
theorem dX4_arrive_98 : decode cX4_arrive 98 = .ok (.ireturn, 1) := by decide +kernel
set_option maxRecDepth 20000 in
theorem ggX4_state_X4_appointmentOrThrow : GoodIn wsX4_state wsX4_appointmentOrThrow := goodIn_ca (goodIn_r _ [6, 7, 8, 9, 10, 21, 22, 23, 24, 25, 26, 27, 28, 29, 30, 31, 32, 33] (by decide +kernel) (by decide +kernel)) (goodIn_sub (fun _ h => List.mem_cons_of_mem _ (List.mem_append_right _ h)) (by decide +kernel))
set_option maxRecDepth 20000 in
theorem gX4_state_X4_appointmentOrThrow : GoodIn wsX4_state (wsV RX4 94 RX4 yX4_appointmentOrThrow wsX4_appointmentOrThrow) := goodIn_app (goodIn_of _ (by decide +kernel)) ggX4_state_X4_appointmentOrThrow
theorem dX4_state_0 : decode cX4_state 0 = .ok (.aload_n 0, 1) := by decide +kernel
theorem dX4_state_1 : decode cX4_state 1 = .ok (.iload_n 1, 1) := by decide +kernel
theorem dX4_state_2 : decode cX4_state 2 = .ok (.invokevirtual 94, 3) := by decide +kernel
theorem dX4_state_5 : decode cX4_state 5 = .ok (.getfield 102, 3) := by decide +kernel
theorem dX4_state_8 : decode cX4_state 8 = .ok (.ireturn, 1) := by decide +kernel
set_option maxRecDepth 20000 in
theorem ggX4_punctuality_X4_arrivedOrThrow : GoodIn wsX4_punctuality wsX4_arrivedOrThrow := goodIn_ca (goodIn_ca (goodIn_r _ [5, 6, 7, 8, 9, 10, 4, 11, 12, 13, 14, 15, 16, 17, 18, 19, 20, 21, 29, 30, 31, 32, 33, 34, 35, 36, 37, 38, 39, 40, 41, 42, 43, 44, 45, 46, 47, 48, 49, 50, 51] (by decide +kernel) (by decide +kernel)) (goodIn_sub (fun _ h => List.mem_cons_of_mem _ (List.mem_append_left _ (List.mem_append_right _ h))) (by decide +kernel))) (goodIn_sub (fun _ h => List.mem_cons_of_mem _ (List.mem_append_right _ h)) (by decide +kernel))
set_option maxRecDepth 20000 in
theorem gX4_punctuality_X4_arrivedOrThrow : GoodIn wsX4_punctuality (wsV RX4 136 RX4 yX4_arrivedOrThrow wsX4_arrivedOrThrow) := goodIn_app (goodIn_of _ (by decide +kernel)) ggX4_punctuality_X4_arrivedOrThrow
set_option maxRecDepth 20000 in
theorem ggX4_punctuality_X4_punctualityOf : GoodIn wsX4_punctuality wsX4_punctualityOf := goodIn_r _ [25, 26, 27, 28, 42, 43, 44, 45, 46, 47, 48, 49, 50, 51, 29, 30, 31, 32, 33, 34, 35, 36, 37, 38, 39, 40, 41] (by decide +kernel) (by decide +kernel)
set_option maxRecDepth 20000 in
theorem gX4_punctuality_X4_punctualityOf : GoodIn wsX4_punctuality (wsV RX4 132 RX4 yX4_punctualityOf wsX4_punctualityOf) := goodIn_app (goodIn_of _ (by decide +kernel)) ggX4_punctuality_X4_punctualityOf
theorem dX4_punctuality_0 : decode cX4_punctuality 0 = .ok (.aload_n 0, 1) := by decide +kernel
theorem dX4_punctuality_1 : decode cX4_punctuality 1 = .ok (.aload_n 0, 1) := by decide +kernel
theorem dX4_punctuality_2 : decode cX4_punctuality 2 = .ok (.iload_n 1, 1) := by decide +kernel
theorem dX4_punctuality_3 : decode cX4_punctuality 3 = .ok (.invokevirtual 136, 3) := by decide +kernel
theorem dX4_punctuality_6 : decode cX4_punctuality 6 = .ok (.invokevirtual 132, 3) := by decide +kernel
theorem dX4_punctuality_9 : decode cX4_punctuality 9 = .ok (.ireturn, 1) := by decide +kernel
theorem dX4_nextBooked_0 : decode cX4_nextBooked 0 = .ok (.aconst_null, 1) := by decide +kernel
theorem dX4_nextBooked_1 : decode cX4_nextBooked 1 = .ok (.astore_n 1, 1) := by decide +kernel
theorem dX4_nextBooked_2 : decode cX4_nextBooked 2 = .ok (.iconst 0, 1) := by decide +kernel
theorem dX4_nextBooked_3 : decode cX4_nextBooked 3 = .ok (.istore_n 2, 1) := by decide +kernel
theorem dX4_nextBooked_4 : decode cX4_nextBooked 4 = .ok (.iload_n 2, 1) := by decide +kernel
theorem dX4_nextBooked_5 : decode cX4_nextBooked 5 = .ok (.aload_n 0, 1) := by decide +kernel
theorem dX4_nextBooked_6 : decode cX4_nextBooked 6 = .ok (.getfield 86, 3) := by decide +kernel
theorem dX4_nextBooked_9 : decode cX4_nextBooked 9 = .ok (.if_icmp .ge 55, 3) := by decide +kernel
theorem dX4_nextBooked_12 : decode cX4_nextBooked 12 = .ok (.iload_n 2, 1) := by decide +kernel
theorem dX4_nextBooked_13 : decode cX4_nextBooked 13 = .ok (.aload_n 0, 1) := by decide +kernel
theorem dX4_nextBooked_14 : decode cX4_nextBooked 14 = .ok (.getfield 24, 3) := by decide +kernel
theorem dX4_nextBooked_17 : decode cX4_nextBooked 17 = .ok (.arraylength, 1) := by decide +kernel
theorem dX4_nextBooked_18 : decode cX4_nextBooked 18 = .ok (.if_icmp .ge 46, 3) := by decide +kernel
theorem dX4_nextBooked_21 : decode cX4_nextBooked 21 = .ok (.aload_n 0, 1) := by decide +kernel
theorem dX4_nextBooked_22 : decode cX4_nextBooked 22 = .ok (.getfield 24, 3) := by decide +kernel
theorem dX4_nextBooked_25 : decode cX4_nextBooked 25 = .ok (.iload_n 2, 1) := by decide +kernel
theorem dX4_nextBooked_26 : decode cX4_nextBooked 26 = .ok (.aaload, 1) := by decide +kernel
theorem dX4_nextBooked_27 : decode cX4_nextBooked 27 = .ok (.astore_n 3, 1) := by decide +kernel
theorem dX4_nextBooked_28 : decode cX4_nextBooked 28 = .ok (.aload_n 3, 1) := by decide +kernel
theorem dX4_nextBooked_29 : decode cX4_nextBooked 29 = .ok (.ifnull 29, 3) := by decide +kernel
theorem dX4_nextBooked_32 : decode cX4_nextBooked 32 = .ok (.aload_n 3, 1) := by decide +kernel
theorem dX4_nextBooked_33 : decode cX4_nextBooked 33 = .ok (.getfield 102, 3) := by decide +kernel
theorem dX4_nextBooked_36 : decode cX4_nextBooked 36 = .ok (.bipush 98, 2) := by decide +kernel
theorem dX4_nextBooked_38 : decode cX4_nextBooked 38 = .ok (.if_icmp .ne 20, 3) := by decide +kernel
theorem dX4_nextBooked_41 : decode cX4_nextBooked 41 = .ok (.aload_n 1, 1) := by decide +kernel
theorem dX4_nextBooked_42 : decode cX4_nextBooked 42 = .ok (.ifnull 14, 3) := by decide +kernel
theorem dX4_nextBooked_45 : decode cX4_nextBooked 45 = .ok (.aload_n 3, 1) := by decide +kernel
theorem dX4_nextBooked_46 : decode cX4_nextBooked 46 = .ok (.getfield 139, 3) := by decide +kernel
theorem dX4_nextBooked_49 : decode cX4_nextBooked 49 = .ok (.aload_n 1, 1) := by decide +kernel
theorem dX4_nextBooked_50 : decode cX4_nextBooked 50 = .ok (.getfield 139, 3) := by decide +kernel
theorem dX4_nextBooked_53 : decode cX4_nextBooked 53 = .ok (.if_icmp .ge 5, 3) := by decide +kernel
theorem dX4_nextBooked_56 : decode cX4_nextBooked 56 = .ok (.aload_n 3, 1) := by decide +kernel
theorem dX4_nextBooked_57 : decode cX4_nextBooked 57 = .ok (.astore_n 1, 1) := by decide +kernel
theorem dX4_nextBooked_58 : decode cX4_nextBooked 58 = .ok (.iinc 2 1, 3) := by decide +kernel
theorem dX4_nextBooked_61 : decode cX4_nextBooked 61 = .ok (.goto (-57), 3) := by decide +kernel
theorem dX4_nextBooked_64 : decode cX4_nextBooked 64 = .ok (.aload_n 1, 1) := by decide +kernel
theorem dX4_nextBooked_65 : decode cX4_nextBooked 65 = .ok (.ifnonnull 13, 3) := by decide +kernel
theorem dX4_nextBooked_68 : decode cX4_nextBooked 68 = .ok (.new 142, 3) := by decide +kernel
theorem dX4_nextBooked_71 : decode cX4_nextBooked 71 = .ok (.dup, 1) := by decide +kernel
theorem dX4_nextBooked_72 : decode cX4_nextBooked 72 = .ok (.ldc 144, 2) := by decide +kernel
theorem dX4_nextBooked_74 : decode cX4_nextBooked 74 = .ok (.invokespecial 146, 3) := by decide +kernel
theorem dX4_nextBooked_77 : decode cX4_nextBooked 77 = .ok (.athrow, 1) := by decide +kernel
theorem dX4_nextBooked_78 : decode cX4_nextBooked 78 = .ok (.aload_n 1, 1) := by decide +kernel
theorem dX4_nextBooked_79 : decode cX4_nextBooked 79 = .ok (.getfield 147, 3) := by decide +kernel
theorem dX4_nextBooked_82 : decode cX4_nextBooked 82 = .ok (.ireturn, 1) := by decide +kernel
set_option maxRecDepth 20000 in
theorem ggX4_shift_X4_appointmentOrThrow : GoodIn wsX4_shift wsX4_appointmentOrThrow := goodIn_ca (goodIn_r _ [9, 10, 11, 12, 13, 70, 71, 72, 73, 74, 75, 76, 77, 78, 79, 80, 81, 82] (by decide +kernel) (by decide +kernel)) (goodIn_sub (fun _ h => List.mem_cons_of_mem _ (List.mem_append_left _ (List.mem_append_left _ (List.mem_append_right _ h)))) (by decide +kernel))
set_option maxRecDepth 20000 in
theorem gX4_shift_X4_appointmentOrThrow : GoodIn wsX4_shift (wsV RX4 94 RX4 yX4_appointmentOrThrow wsX4_appointmentOrThrow) := goodIn_app (goodIn_of _ (by decide +kernel)) ggX4_shift_X4_appointmentOrThrow
set_option maxRecDepth 20000 in
theorem ggX4_shift_X4_laneOrThrow : GoodIn wsX4_shift wsX4_laneOrThrow := goodIn_ca (goodIn_r _ [17, 18, 19, 20, 21, 22, 23, 24, 25, 26, 27, 70, 71, 72, 73, 74, 75, 76, 77, 78, 79, 80, 81, 82, 83, 84] (by decide +kernel) (by decide +kernel)) (goodIn_sub (fun _ h => List.mem_cons_of_mem _ (List.mem_append_left _ (List.mem_append_right _ h))) (by decide +kernel))
set_option maxRecDepth 20000 in
theorem gX4_shift_X4_laneOrThrow : GoodIn wsX4_shift (wsV RX4 98 RX4 yX4_laneOrThrow wsX4_laneOrThrow) := goodIn_app (goodIn_of _ (by decide +kernel)) ggX4_shift_X4_laneOrThrow
set_option maxRecDepth 20000 in
theorem ggX4_shift_X4_homeOfReachedOrThrow : GoodIn wsX4_shift wsX4_homeOfReachedOrThrow := goodIn_ca (goodIn_r _ [30, 31, 32, 33, 34, 8, 35, 36, 37, 38, 39, 40, 41, 42, 43, 85, 86, 87, 88, 89, 90, 91, 92, 93, 94, 65, 66, 67, 68, 69] (by decide +kernel) (by decide +kernel)) (goodIn_sub (fun _ h => List.mem_cons_of_mem _ (List.mem_append_right _ h)) (by decide +kernel))
set_option maxRecDepth 20000 in
theorem gX4_shift_X4_homeOfReachedOrThrow : GoodIn wsX4_shift (va_wsS RX4 150 yX4_homeOfReachedOrThrow wsX4_homeOfReachedOrThrow) := goodIn_app (goodIn_of _ (by decide +kernel)) ggX4_shift_X4_homeOfReachedOrThrow
set_option maxRecDepth 20000 in
theorem ggX4_shift_X2_canTake : GoodIn wsX4_shift wsX2_canTake := goodIn_r _ [47, 42, 48, 49, 50, 65, 66, 67, 68, 69, 85, 86, 87, 88, 89, 90, 91, 92, 93, 94] (by decide +kernel) (by decide +kernel)
set_option maxRecDepth 20000 in
theorem gX4_shift_X2_canTake : GoodIn wsX4_shift (wsV RX4 114 RX2 yX2_canTake wsX2_canTake) := goodIn_app (goodIn_of _ (by decide +kernel)) ggX4_shift_X2_canTake
set_option maxRecDepth 20000 in
theorem ggX4_shift_X2_takeOut : GoodIn wsX4_shift wsX2_takeOut := goodIn_r _ [54, 42, 55, 56, 57, 58, 40, 59, 60, 65, 66, 67, 68, 69, 85, 86, 87, 88, 89, 90, 91, 92, 93, 94] (by decide +kernel) (by decide +kernel)
set_option maxRecDepth 20000 in
theorem gX4_shift_X2_takeOut : GoodIn wsX4_shift (wsV RX4 157 RX2 yX2_takeOut wsX2_takeOut) := goodIn_app (goodIn_of _ (by decide +kernel)) ggX4_shift_X2_takeOut
set_option maxRecDepth 20000 in
theorem ggX4_shift_X2_bringIn : GoodIn wsX4_shift wsX2_bringIn := goodIn_r _ [64, 42, 60, 55, 43, 65, 66, 67, 68, 69, 85, 86, 87, 88, 89, 90, 91, 92, 93, 94] (by decide +kernel) (by decide +kernel)
set_option maxRecDepth 20000 in
theorem gX4_shift_X2_bringIn : GoodIn wsX4_shift (wsV RX4 125 RX2 yX2_bringIn wsX2_bringIn) := goodIn_app (goodIn_of _ (by decide +kernel)) ggX4_shift_X2_bringIn
theorem dX4_shift_0 : decode cX4_shift 0 = .ok (.aload_n 0, 1) := by decide +kernel
theorem dX4_shift_1 : decode cX4_shift 1 = .ok (.iload_n 1, 1) := by decide +kernel
theorem dX4_shift_2 : decode cX4_shift 2 = .ok (.invokevirtual 94, 3) := by decide +kernel
theorem dX4_shift_5 : decode cX4_shift 5 = .ok (.astore_n 3, 1) := by decide +kernel
theorem dX4_shift_6 : decode cX4_shift 6 = .ok (.aload_n 0, 1) := by decide +kernel
theorem dX4_shift_7 : decode cX4_shift 7 = .ok (.iload_n 2, 1) := by decide +kernel
theorem dX4_shift_8 : decode cX4_shift 8 = .ok (.invokevirtual 98, 3) := by decide +kernel
theorem dX4_shift_11 : decode cX4_shift 11 = .ok (.astore 4, 2) := by decide +kernel
theorem dX4_shift_13 : decode cX4_shift 13 = .ok (.aload_n 3, 1) := by decide +kernel
theorem dX4_shift_14 : decode cX4_shift 14 = .ok (.invokestatic 150, 3) := by decide +kernel
theorem dX4_shift_17 : decode cX4_shift 17 = .ok (.astore 5, 2) := by decide +kernel
theorem dX4_shift_19 : decode cX4_shift 19 = .ok (.aload 5, 2) := by decide +kernel
theorem dX4_shift_21 : decode cX4_shift 21 = .ok (.getfield 154, 3) := by decide +kernel
theorem dX4_shift_24 : decode cX4_shift 24 = .ok (.aload 4, 2) := by decide +kernel
theorem dX4_shift_26 : decode cX4_shift 26 = .ok (.getfield 154, 3) := by decide +kernel
theorem dX4_shift_29 : decode cX4_shift 29 = .ok (.if_icmp .ne 13, 3) := by decide +kernel
theorem dX4_shift_32 : decode cX4_shift 32 = .ok (.new 120, 3) := by decide +kernel
theorem dX4_shift_35 : decode cX4_shift 35 = .ok (.dup, 1) := by decide +kernel
theorem dX4_shift_36 : decode cX4_shift 36 = .ok (.ldc 155, 2) := by decide +kernel
theorem dX4_shift_38 : decode cX4_shift 38 = .ok (.invokespecial 124, 3) := by decide +kernel
theorem dX4_shift_41 : decode cX4_shift 41 = .ok (.athrow, 1) := by decide +kernel
theorem dX4_shift_42 : decode cX4_shift 42 = .ok (.aload 4, 2) := by decide +kernel
theorem dX4_shift_44 : decode cX4_shift 44 = .ok (.aload_n 3, 1) := by decide +kernel
theorem dX4_shift_45 : decode cX4_shift 45 = .ok (.invokevirtual 114, 3) := by decide +kernel
theorem dX4_shift_48 : decode cX4_shift 48 = .ok (.ifCond .ne 13, 3) := by decide +kernel
theorem dX4_shift_51 : decode cX4_shift 51 = .ok (.new 120, 3) := by decide +kernel
theorem dX4_shift_54 : decode cX4_shift 54 = .ok (.dup, 1) := by decide +kernel
theorem dX4_shift_55 : decode cX4_shift 55 = .ok (.ldc 122, 2) := by decide +kernel
theorem dX4_shift_57 : decode cX4_shift 57 = .ok (.invokespecial 124, 3) := by decide +kernel
theorem dX4_shift_60 : decode cX4_shift 60 = .ok (.athrow, 1) := by decide +kernel
theorem dX4_shift_61 : decode cX4_shift 61 = .ok (.aload 5, 2) := by decide +kernel
theorem dX4_shift_63 : decode cX4_shift 63 = .ok (.invokevirtual 157, 3) := by decide +kernel
theorem dX4_shift_66 : decode cX4_shift 66 = .ok (.pop, 1) := by decide +kernel
theorem dX4_shift_67 : decode cX4_shift 67 = .ok (.aload 4, 2) := by decide +kernel
theorem dX4_shift_69 : decode cX4_shift 69 = .ok (.aload_n 3, 1) := by decide +kernel
theorem dX4_shift_70 : decode cX4_shift 70 = .ok (.invokevirtual 125, 3) := by decide +kernel
theorem dX4_shift_73 : decode cX4_shift 73 = .ok (.aload_n 0, 1) := by decide +kernel
theorem dX4_shift_74 : decode cX4_shift 74 = .ok (.dup, 1) := by decide +kernel
theorem dX4_shift_75 : decode cX4_shift 75 = .ok (.getfield 161, 3) := by decide +kernel
theorem dX4_shift_78 : decode cX4_shift 78 = .ok (.iconst 1, 1) := by decide +kernel
theorem dX4_shift_79 : decode cX4_shift 79 = .ok (.iadd, 1) := by decide +kernel
theorem dX4_shift_80 : decode cX4_shift 80 = .ok (.putfield 161, 3) := by decide +kernel
theorem dX4_shift_83 : decode cX4_shift 83 = .ok (.aload_n 0, 1) := by decide +kernel
theorem dX4_shift_84 : decode cX4_shift 84 = .ok (.getfield 161, 3) := by decide +kernel
theorem dX4_shift_87 : decode cX4_shift 87 = .ok (.ireturn, 1) := by decide +kernel
set_option maxRecDepth 20000 in
theorem ggX4_dock_X4_appointmentOrThrow : GoodIn wsX4_dock wsX4_appointmentOrThrow := goodIn_ca (goodIn_r _ [15, 16, 17, 18, 19, 79, 80, 81, 82, 83, 84, 85, 86, 87, 88, 89, 90, 91] (by decide +kernel) (by decide +kernel)) (goodIn_sub (fun _ h => List.mem_cons_of_mem _ (List.mem_append_left _ (List.mem_append_right _ h))) (by decide +kernel))
set_option maxRecDepth 20000 in
theorem gX4_dock_X4_appointmentOrThrow : GoodIn wsX4_dock (wsV RX4 94 RX4 yX4_appointmentOrThrow wsX4_appointmentOrThrow) := goodIn_app (goodIn_of _ (by decide +kernel)) ggX4_dock_X4_appointmentOrThrow
set_option maxRecDepth 20000 in
theorem ggX4_dock_X4_doorAt : GoodIn wsX4_dock wsX4_doorAt := goodIn_r _ [23, 24, 25, 79, 80, 81, 82, 83, 84, 85, 86, 87, 88, 89, 90, 91] (by decide +kernel) (by decide +kernel)
set_option maxRecDepth 20000 in
theorem gX4_dock_X4_doorAt : GoodIn wsX4_dock (wsV RX4 164 RX4 yX4_doorAt wsX4_doorAt) := goodIn_app (goodIn_of _ (by decide +kernel)) ggX4_dock_X4_doorAt
set_option maxRecDepth 20000 in
theorem ggX4_dock_X4_homeOfReachedOrThrow : GoodIn wsX4_dock wsX4_homeOfReachedOrThrow := goodIn_ca (goodIn_r _ [28, 29, 30, 31, 32, 14, 33, 34, 35, 36, 37, 38, 39, 40, 41, 69, 70, 71, 72, 73, 74, 75, 76, 77, 78, 92, 93, 94, 95, 96] (by decide +kernel) (by decide +kernel)) (goodIn_sub (fun _ h => List.mem_cons_of_mem _ (List.mem_append_right _ h)) (by decide +kernel))
set_option maxRecDepth 20000 in
theorem gX4_dock_X4_homeOfReachedOrThrow : GoodIn wsX4_dock (va_wsS RX4 150 yX4_homeOfReachedOrThrow wsX4_homeOfReachedOrThrow) := goodIn_app (goodIn_of _ (by decide +kernel)) ggX4_dock_X4_homeOfReachedOrThrow
set_option maxRecDepth 20000 in
theorem ggX4_dock_X1_canTake : GoodIn wsX4_dock wsX1_canTake := goodIn_r _ [46, 47, 48, 49, 67, 68, 69, 70, 71, 72, 73, 74, 75, 76, 77, 78] (by decide +kernel) (by decide +kernel)
set_option maxRecDepth 20000 in
theorem gX4_dock_X1_canTake : GoodIn wsX4_dock (wsV RX4 173 RX1 yX1_canTake wsX1_canTake) := goodIn_app (goodIn_of _ (by decide +kernel)) ggX4_dock_X1_canTake
set_option maxRecDepth 20000 in
theorem ggX4_dock_X2_takeOut : GoodIn wsX4_dock wsX2_takeOut := goodIn_r _ [53, 40, 54, 55, 56, 57, 38, 58, 59, 92, 93, 94, 95, 96, 69, 70, 71, 72, 73, 74, 75, 76, 77, 78] (by decide +kernel) (by decide +kernel)
set_option maxRecDepth 20000 in
theorem gX4_dock_X2_takeOut : GoodIn wsX4_dock (wsV RX4 157 RX2 yX2_takeOut wsX2_takeOut) := goodIn_app (goodIn_of _ (by decide +kernel)) ggX4_dock_X2_takeOut
set_option maxRecDepth 20000 in
theorem ggX4_dock_X0_doneAt : GoodIn wsX4_dock wsX0_doneAt := goodIn_r _ [64, 65, 66, 69, 70, 71, 72, 73, 74, 75, 76, 77, 78] (by decide +kernel) (by decide +kernel)
set_option maxRecDepth 20000 in
theorem gX4_dock_X0_doneAt : GoodIn wsX4_dock (wsV RX4 187 RX0 yX0_doneAt wsX0_doneAt) := goodIn_app (goodIn_of _ (by decide +kernel)) ggX4_dock_X0_doneAt
theorem dX4_dock_0 : decode cX4_dock 0 = .ok (.aload_n 0, 1) := by decide +kernel
theorem dX4_dock_1 : decode cX4_dock 1 = .ok (.iload_n 1, 1) := by decide +kernel
theorem dX4_dock_2 : decode cX4_dock 2 = .ok (.invokevirtual 94, 3) := by decide +kernel
theorem dX4_dock_5 : decode cX4_dock 5 = .ok (.astore_n 3, 1) := by decide +kernel
theorem dX4_dock_6 : decode cX4_dock 6 = .ok (.aload_n 0, 1) := by decide +kernel
theorem dX4_dock_7 : decode cX4_dock 7 = .ok (.iload_n 2, 1) := by decide +kernel
theorem dX4_dock_8 : decode cX4_dock 8 = .ok (.invokevirtual 164, 3) := by decide +kernel
theorem dX4_dock_11 : decode cX4_dock 11 = .ok (.astore 4, 2) := by decide +kernel
theorem dX4_dock_13 : decode cX4_dock 13 = .ok (.aload 4, 2) := by decide +kernel
theorem dX4_dock_15 : decode cX4_dock 15 = .ok (.ifnonnull 13, 3) := by decide +kernel
theorem dX4_dock_18 : decode cX4_dock 18 = .ok (.new 168, 3) := by decide +kernel
theorem dX4_dock_21 : decode cX4_dock 21 = .ok (.dup, 1) := by decide +kernel
theorem dX4_dock_22 : decode cX4_dock 22 = .ok (.ldc 170, 2) := by decide +kernel
theorem dX4_dock_24 : decode cX4_dock 24 = .ok (.invokespecial 172, 3) := by decide +kernel
theorem dX4_dock_27 : decode cX4_dock 27 = .ok (.athrow, 1) := by decide +kernel
theorem dX4_dock_28 : decode cX4_dock 28 = .ok (.aload_n 3, 1) := by decide +kernel
theorem dX4_dock_29 : decode cX4_dock 29 = .ok (.invokestatic 150, 3) := by decide +kernel
theorem dX4_dock_32 : decode cX4_dock 32 = .ok (.astore 5, 2) := by decide +kernel
theorem dX4_dock_34 : decode cX4_dock 34 = .ok (.aload 4, 2) := by decide +kernel
theorem dX4_dock_36 : decode cX4_dock 36 = .ok (.aload_n 3, 1) := by decide +kernel
theorem dX4_dock_37 : decode cX4_dock 37 = .ok (.invokevirtual 173, 3) := by decide +kernel
theorem dX4_dock_40 : decode cX4_dock 40 = .ok (.ifCond .ne 13, 3) := by decide +kernel
theorem dX4_dock_43 : decode cX4_dock 43 = .ok (.new 120, 3) := by decide +kernel
theorem dX4_dock_46 : decode cX4_dock 46 = .ok (.dup, 1) := by decide +kernel
theorem dX4_dock_47 : decode cX4_dock 47 = .ok (.ldc 174, 2) := by decide +kernel
theorem dX4_dock_49 : decode cX4_dock 49 = .ok (.invokespecial 124, 3) := by decide +kernel
theorem dX4_dock_52 : decode cX4_dock 52 = .ok (.athrow, 1) := by decide +kernel
theorem dX4_dock_53 : decode cX4_dock 53 = .ok (.aload 5, 2) := by decide +kernel
theorem dX4_dock_55 : decode cX4_dock 55 = .ok (.invokevirtual 157, 3) := by decide +kernel
theorem dX4_dock_58 : decode cX4_dock 58 = .ok (.pop, 1) := by decide +kernel
theorem dX4_dock_59 : decode cX4_dock 59 = .ok (.aload 4, 2) := by decide +kernel
theorem dX4_dock_61 : decode cX4_dock 61 = .ok (.iconst 1, 1) := by decide +kernel
theorem dX4_dock_62 : decode cX4_dock 62 = .ok (.putfield 176, 3) := by decide +kernel
theorem dX4_dock_65 : decode cX4_dock 65 = .ok (.aload_n 3, 1) := by decide +kernel
theorem dX4_dock_66 : decode cX4_dock 66 = .ok (.aload 4, 2) := by decide +kernel
theorem dX4_dock_68 : decode cX4_dock 68 = .ok (.putfield 180, 3) := by decide +kernel
theorem dX4_dock_71 : decode cX4_dock 71 = .ok (.aload_n 3, 1) := by decide +kernel
theorem dX4_dock_72 : decode cX4_dock 72 = .ok (.bipush 119, 2) := by decide +kernel
theorem dX4_dock_74 : decode cX4_dock 74 = .ok (.putfield 102, 3) := by decide +kernel
theorem dX4_dock_77 : decode cX4_dock 77 = .ok (.aload_n 3, 1) := by decide +kernel
theorem dX4_dock_78 : decode cX4_dock 78 = .ok (.aload_n 0, 1) := by decide +kernel
theorem dX4_dock_79 : decode cX4_dock 79 = .ok (.getfield 81, 3) := by decide +kernel
theorem dX4_dock_82 : decode cX4_dock 82 = .ok (.putfield 184, 3) := by decide +kernel
theorem dX4_dock_85 : decode cX4_dock 85 = .ok (.aload_n 0, 1) := by decide +kernel
theorem dX4_dock_86 : decode cX4_dock 86 = .ok (.dup, 1) := by decide +kernel
theorem dX4_dock_87 : decode cX4_dock 87 = .ok (.getfield 161, 3) := by decide +kernel
theorem dX4_dock_90 : decode cX4_dock 90 = .ok (.iconst 1, 1) := by decide +kernel
theorem dX4_dock_91 : decode cX4_dock 91 = .ok (.iadd, 1) := by decide +kernel
theorem dX4_dock_92 : decode cX4_dock 92 = .ok (.putfield 161, 3) := by decide +kernel
theorem dX4_dock_95 : decode cX4_dock 95 = .ok (.aload_n 3, 1) := by decide +kernel
theorem dX4_dock_96 : decode cX4_dock 96 = .ok (.invokevirtual 187, 3) := by decide +kernel
theorem dX4_dock_99 : decode cX4_dock 99 = .ok (.ireturn, 1) := by decide +kernel
set_option maxRecDepth 20000 in
theorem ggX4_leave_X4_appointmentOrThrow : GoodIn wsX4_leave wsX4_appointmentOrThrow := goodIn_ca (goodIn_r _ [14, 15, 16, 17, 18, 63, 64, 65, 66, 67, 68, 69, 70, 71, 72, 73, 74, 75] (by decide +kernel) (by decide +kernel)) (goodIn_sub (fun _ h => List.mem_cons_of_mem _ (List.mem_append_right _ h)) (by decide +kernel))
set_option maxRecDepth 20000 in
theorem gX4_leave_X4_appointmentOrThrow : GoodIn wsX4_leave (wsV RX4 94 RX4 yX4_appointmentOrThrow wsX4_appointmentOrThrow) := goodIn_app (goodIn_of _ (by decide +kernel)) ggX4_leave_X4_appointmentOrThrow
set_option maxRecDepth 20000 in
theorem ggX4_leave_X0_doneAt : GoodIn wsX4_leave wsX0_doneAt := goodIn_r _ [23, 24, 25, 53, 54, 55, 56, 57, 58, 59, 60, 61, 62] (by decide +kernel) (by decide +kernel)
set_option maxRecDepth 20000 in
theorem gX4_leave_X0_doneAt : GoodIn wsX4_leave (wsV RX4 187 RX0 yX0_doneAt wsX0_doneAt) := goodIn_app (goodIn_of _ (by decide +kernel)) ggX4_leave_X0_doneAt
set_option maxRecDepth 20000 in
theorem ggX4_leave_X4_chargeInSteps : GoodIn wsX4_leave wsX4_chargeInSteps := goodIn_r _ [29, 30, 31, 32, 33, 34, 35, 36, 37, 38, 39, 40, 41, 42, 43, 13, 44, 45, 46, 47, 48, 49, 50, 51, 8, 6, 52, 63, 64, 65, 66, 67, 68, 69, 70, 71, 72, 73, 74, 75, 53, 54, 55, 56, 57, 58, 59, 60, 61, 62] (by decide +kernel) (by decide +kernel)
set_option maxRecDepth 20000 in
theorem gX4_leave_X4_chargeInSteps : GoodIn wsX4_leave (wsV RX4 194 RX4 yX4_chargeInSteps wsX4_chargeInSteps) := goodIn_app (goodIn_of _ (by decide +kernel)) ggX4_leave_X4_chargeInSteps
theorem dX4_leave_0 : decode cX4_leave 0 = .ok (.aload_n 0, 1) := by decide +kernel
theorem dX4_leave_1 : decode cX4_leave 1 = .ok (.iload_n 1, 1) := by decide +kernel
theorem dX4_leave_2 : decode cX4_leave 2 = .ok (.invokevirtual 94, 3) := by decide +kernel
theorem dX4_leave_5 : decode cX4_leave 5 = .ok (.astore_n 2, 1) := by decide +kernel
theorem dX4_leave_6 : decode cX4_leave 6 = .ok (.aload_n 2, 1) := by decide +kernel
theorem dX4_leave_7 : decode cX4_leave 7 = .ok (.getfield 180, 3) := by decide +kernel
theorem dX4_leave_10 : decode cX4_leave 10 = .ok (.astore_n 3, 1) := by decide +kernel
theorem dX4_leave_11 : decode cX4_leave 11 = .ok (.aload_n 3, 1) := by decide +kernel
theorem dX4_leave_12 : decode cX4_leave 12 = .ok (.ifnonnull 13, 3) := by decide +kernel
theorem dX4_leave_15 : decode cX4_leave 15 = .ok (.new 58, 3) := by decide +kernel
theorem dX4_leave_18 : decode cX4_leave 18 = .ok (.dup, 1) := by decide +kernel
theorem dX4_leave_19 : decode cX4_leave 19 = .ok (.ldc 190, 2) := by decide +kernel
theorem dX4_leave_21 : decode cX4_leave 21 = .ok (.invokespecial 62, 3) := by decide +kernel
theorem dX4_leave_24 : decode cX4_leave 24 = .ok (.athrow, 1) := by decide +kernel
theorem dX4_leave_25 : decode cX4_leave 25 = .ok (.aload_n 0, 1) := by decide +kernel
theorem dX4_leave_26 : decode cX4_leave 26 = .ok (.getfield 81, 3) := by decide +kernel
theorem dX4_leave_29 : decode cX4_leave 29 = .ok (.aload_n 2, 1) := by decide +kernel
theorem dX4_leave_30 : decode cX4_leave 30 = .ok (.invokevirtual 187, 3) := by decide +kernel
theorem dX4_leave_33 : decode cX4_leave 33 = .ok (.if_icmp .ge 13, 3) := by decide +kernel
theorem dX4_leave_36 : decode cX4_leave 36 = .ok (.new 120, 3) := by decide +kernel
theorem dX4_leave_39 : decode cX4_leave 39 = .ok (.dup, 1) := by decide +kernel
theorem dX4_leave_40 : decode cX4_leave 40 = .ok (.ldc 192, 2) := by decide +kernel
theorem dX4_leave_42 : decode cX4_leave 42 = .ok (.invokespecial 124, 3) := by decide +kernel
theorem dX4_leave_45 : decode cX4_leave 45 = .ok (.athrow, 1) := by decide +kernel
theorem dX4_leave_46 : decode cX4_leave 46 = .ok (.aload_n 3, 1) := by decide +kernel
theorem dX4_leave_47 : decode cX4_leave 47 = .ok (.iconst 0, 1) := by decide +kernel
theorem dX4_leave_48 : decode cX4_leave 48 = .ok (.putfield 176, 3) := by decide +kernel
theorem dX4_leave_51 : decode cX4_leave 51 = .ok (.aload_n 2, 1) := by decide +kernel
theorem dX4_leave_52 : decode cX4_leave 52 = .ok (.aconst_null, 1) := by decide +kernel
theorem dX4_leave_53 : decode cX4_leave 53 = .ok (.putfield 180, 3) := by decide +kernel
theorem dX4_leave_56 : decode cX4_leave 56 = .ok (.aload_n 2, 1) := by decide +kernel
theorem dX4_leave_57 : decode cX4_leave 57 = .ok (.bipush 103, 2) := by decide +kernel
theorem dX4_leave_59 : decode cX4_leave 59 = .ok (.putfield 102, 3) := by decide +kernel
theorem dX4_leave_62 : decode cX4_leave 62 = .ok (.aload_n 0, 1) := by decide +kernel
theorem dX4_leave_63 : decode cX4_leave 63 = .ok (.aload_n 2, 1) := by decide +kernel
theorem dX4_leave_64 : decode cX4_leave 64 = .ok (.invokevirtual 194, 3) := by decide +kernel
theorem dX4_leave_67 : decode cX4_leave 67 = .ok (.istore 4, 2) := by decide +kernel
theorem dX4_leave_69 : decode cX4_leave 69 = .ok (.aload_n 0, 1) := by decide +kernel
theorem dX4_leave_70 : decode cX4_leave 70 = .ok (.dup, 1) := by decide +kernel
theorem dX4_leave_71 : decode cX4_leave 71 = .ok (.getfield 198, 3) := by decide +kernel
theorem dX4_leave_74 : decode cX4_leave 74 = .ok (.iload 4, 2) := by decide +kernel
theorem dX4_leave_76 : decode cX4_leave 76 = .ok (.i2l, 1) := by decide +kernel
theorem dX4_leave_77 : decode cX4_leave 77 = .ok (.ladd, 1) := by decide +kernel
theorem dX4_leave_78 : decode cX4_leave 78 = .ok (.putfield 198, 3) := by decide +kernel
theorem dX4_leave_81 : decode cX4_leave 81 = .ok (.iload 4, 2) := by decide +kernel
theorem dX4_leave_83 : decode cX4_leave 83 = .ok (.ireturn, 1) := by decide +kernel
set_option maxRecDepth 20000 in
theorem ggX4_laneOf_X4_appointmentOrThrow : GoodIn wsX4_laneOf wsX4_appointmentOrThrow := goodIn_ca (goodIn_r _ [6, 7, 8, 9, 10, 22, 23, 24, 25, 26, 27, 28, 29, 30, 31, 32, 33, 34] (by decide +kernel) (by decide +kernel)) (goodIn_sub (fun _ h => List.mem_cons_of_mem _ (List.mem_append_left _ (List.mem_append_right _ h))) (by decide +kernel))
set_option maxRecDepth 20000 in
theorem gX4_laneOf_X4_appointmentOrThrow : GoodIn wsX4_laneOf (wsV RX4 94 RX4 yX4_appointmentOrThrow wsX4_appointmentOrThrow) := goodIn_app (goodIn_of _ (by decide +kernel)) ggX4_laneOf_X4_appointmentOrThrow
set_option maxRecDepth 20000 in
theorem ggX4_laneOf_X4_homeOrThrow : GoodIn wsX4_laneOf wsX4_homeOrThrow := goodIn_ca (goodIn_r _ [13, 14, 15, 16, 35, 36, 37, 38, 39, 40, 41, 42, 43, 44] (by decide +kernel) (by decide +kernel)) (goodIn_sub (fun _ h => List.mem_cons_of_mem _ (List.mem_append_right _ h)) (by decide +kernel))
set_option maxRecDepth 20000 in
theorem gX4_laneOf_X4_homeOrThrow : GoodIn wsX4_laneOf (va_wsS RX4 202 yX4_homeOrThrow wsX4_homeOrThrow) := goodIn_app (goodIn_of _ (by decide +kernel)) ggX4_laneOf_X4_homeOrThrow
theorem dX4_laneOf_0 : decode cX4_laneOf 0 = .ok (.aload_n 0, 1) := by decide +kernel
theorem dX4_laneOf_1 : decode cX4_laneOf 1 = .ok (.iload_n 1, 1) := by decide +kernel
theorem dX4_laneOf_2 : decode cX4_laneOf 2 = .ok (.invokevirtual 94, 3) := by decide +kernel
theorem dX4_laneOf_5 : decode cX4_laneOf 5 = .ok (.invokestatic 202, 3) := by decide +kernel
theorem dX4_laneOf_8 : decode cX4_laneOf 8 = .ok (.getfield 154, 3) := by decide +kernel
theorem dX4_laneOf_11 : decode cX4_laneOf 11 = .ok (.ireturn, 1) := by decide +kernel
set_option maxRecDepth 20000 in
theorem ggX4_blockers_X4_appointmentOrThrow : GoodIn wsX4_blockers wsX4_appointmentOrThrow := goodIn_ca (goodIn_r _ [5, 6, 7, 8, 9, 23, 24, 25, 26, 27, 28, 29, 30, 31, 32, 33, 34, 35] (by decide +kernel) (by decide +kernel)) (goodIn_sub (fun _ h => List.mem_cons_of_mem _ (List.mem_append_left _ (List.mem_append_right _ h))) (by decide +kernel))
set_option maxRecDepth 20000 in
theorem gX4_blockers_X4_appointmentOrThrow : GoodIn wsX4_blockers (wsV RX4 94 RX4 yX4_appointmentOrThrow wsX4_appointmentOrThrow) := goodIn_app (goodIn_of _ (by decide +kernel)) ggX4_blockers_X4_appointmentOrThrow
set_option maxRecDepth 20000 in
theorem ggX4_blockers_X4_homeOrThrow : GoodIn wsX4_blockers wsX4_homeOrThrow := goodIn_ca (goodIn_r _ [12, 13, 14, 15, 36, 37, 38, 39, 40, 41, 42, 43, 44, 45] (by decide +kernel) (by decide +kernel)) (goodIn_sub (fun _ h => List.mem_cons_of_mem _ (List.mem_append_right _ h)) (by decide +kernel))
set_option maxRecDepth 20000 in
theorem gX4_blockers_X4_homeOrThrow : GoodIn wsX4_blockers (va_wsS RX4 202 yX4_homeOrThrow wsX4_homeOrThrow) := goodIn_app (goodIn_of _ (by decide +kernel)) ggX4_blockers_X4_homeOrThrow
set_option maxRecDepth 20000 in
theorem ggX4_blockers_X2_countBefore : GoodIn wsX4_blockers wsX2_countBefore := goodIn_r _ [20, 21, 22, 46, 47, 48, 49, 50, 36, 37, 38, 39, 40, 41, 42, 43, 44, 45] (by decide +kernel) (by decide +kernel)
set_option maxRecDepth 20000 in
theorem gX4_blockers_X2_countBefore : GoodIn wsX4_blockers (wsV RX4 205 RX2 yX2_countBefore wsX2_countBefore) := goodIn_app (goodIn_of _ (by decide +kernel)) ggX4_blockers_X2_countBefore
theorem dX4_blockers_0 : decode cX4_blockers 0 = .ok (.aload_n 0, 1) := by decide +kernel
theorem dX4_blockers_1 : decode cX4_blockers 1 = .ok (.iload_n 1, 1) := by decide +kernel
theorem dX4_blockers_2 : decode cX4_blockers 2 = .ok (.invokevirtual 94, 3) := by decide +kernel
theorem dX4_blockers_5 : decode cX4_blockers 5 = .ok (.astore_n 2, 1) := by decide +kernel
theorem dX4_blockers_6 : decode cX4_blockers 6 = .ok (.aload_n 2, 1) := by decide +kernel
theorem dX4_blockers_7 : decode cX4_blockers 7 = .ok (.invokestatic 202, 3) := by decide +kernel
theorem dX4_blockers_10 : decode cX4_blockers 10 = .ok (.aload_n 2, 1) := by decide +kernel
theorem dX4_blockers_11 : decode cX4_blockers 11 = .ok (.invokevirtual 205, 3) := by decide +kernel
theorem dX4_blockers_14 : decode cX4_blockers 14 = .ok (.ireturn, 1) := by decide +kernel
set_option maxRecDepth 20000 in
theorem ggX4_trailerAt_X4_laneOrThrow : GoodIn wsX4_trailerAt wsX4_laneOrThrow := goodIn_ca (goodIn_r _ [8, 9, 10, 11, 12, 13, 14, 15, 16, 17, 18, 36, 37, 38, 39, 40, 41, 42, 43, 44, 45, 46, 47, 48, 49, 50] (by decide +kernel) (by decide +kernel)) (goodIn_sub (fun _ h => List.mem_cons_of_mem _ (List.mem_append_right _ h)) (by decide +kernel))
set_option maxRecDepth 20000 in
theorem gX4_trailerAt_X4_laneOrThrow : GoodIn wsX4_trailerAt (wsV RX4 98 RX4 yX4_laneOrThrow wsX4_laneOrThrow) := goodIn_app (goodIn_of _ (by decide +kernel)) ggX4_trailerAt_X4_laneOrThrow
set_option maxRecDepth 20000 in
theorem ggX4_trailerAt_X2_fromExit : GoodIn wsX4_trailerAt wsX2_fromExit := goodIn_r _ [23, 24, 25, 51, 52, 53, 54, 55] (by decide +kernel) (by decide +kernel)
set_option maxRecDepth 20000 in
theorem gX4_trailerAt_X2_fromExit : GoodIn wsX4_trailerAt (wsV RX4 208 RX2 yX2_fromExit wsX2_fromExit) := goodIn_app (goodIn_of _ (by decide +kernel)) ggX4_trailerAt_X2_fromExit
theorem dX4_trailerAt_0 : decode cX4_trailerAt 0 = .ok (.aload_n 0, 1) := by decide +kernel
theorem dX4_trailerAt_1 : decode cX4_trailerAt 1 = .ok (.iload_n 1, 1) := by decide +kernel
theorem dX4_trailerAt_2 : decode cX4_trailerAt 2 = .ok (.invokevirtual 98, 3) := by decide +kernel
theorem dX4_trailerAt_5 : decode cX4_trailerAt 5 = .ok (.iload_n 2, 1) := by decide +kernel
theorem dX4_trailerAt_6 : decode cX4_trailerAt 6 = .ok (.invokevirtual 208, 3) := by decide +kernel
theorem dX4_trailerAt_9 : decode cX4_trailerAt 9 = .ok (.astore_n 3, 1) := by decide +kernel
theorem dX4_trailerAt_10 : decode cX4_trailerAt 10 = .ok (.aload_n 3, 1) := by decide +kernel
theorem dX4_trailerAt_11 : decode cX4_trailerAt 11 = .ok (.ifnonnull 13, 3) := by decide +kernel
theorem dX4_trailerAt_14 : decode cX4_trailerAt 14 = .ok (.new 142, 3) := by decide +kernel
theorem dX4_trailerAt_17 : decode cX4_trailerAt 17 = .ok (.dup, 1) := by decide +kernel
theorem dX4_trailerAt_18 : decode cX4_trailerAt 18 = .ok (.ldc 211, 2) := by decide +kernel
theorem dX4_trailerAt_20 : decode cX4_trailerAt 20 = .ok (.invokespecial 146, 3) := by decide +kernel
theorem dX4_trailerAt_23 : decode cX4_trailerAt 23 = .ok (.athrow, 1) := by decide +kernel
theorem dX4_trailerAt_24 : decode cX4_trailerAt 24 = .ok (.aload_n 3, 1) := by decide +kernel
theorem dX4_trailerAt_25 : decode cX4_trailerAt 25 = .ok (.getfield 147, 3) := by decide +kernel
theorem dX4_trailerAt_28 : decode cX4_trailerAt 28 = .ok (.ireturn, 1) := by decide +kernel
set_option maxRecDepth 20000 in
theorem ggX4_freeDoor_X4_appointmentOrThrow : GoodIn wsX4_freeDoor wsX4_appointmentOrThrow := goodIn_ca (goodIn_r _ [8, 9, 10, 11, 12, 26, 27, 28, 29, 30, 31, 32, 33, 34, 35, 36, 37, 38] (by decide +kernel) (by decide +kernel)) (goodIn_sub (fun _ h => List.mem_cons_of_mem _ (List.mem_append_right _ h)) (by decide +kernel))
set_option maxRecDepth 20000 in
theorem gX4_freeDoor_X4_appointmentOrThrow : GoodIn wsX4_freeDoor (wsV RX4 94 RX4 yX4_appointmentOrThrow wsX4_appointmentOrThrow) := goodIn_app (goodIn_of _ (by decide +kernel)) ggX4_freeDoor_X4_appointmentOrThrow
set_option maxRecDepth 20000 in
theorem ggX4_freeDoor_X4_doorAt : GoodIn wsX4_freeDoor wsX4_doorAt := goodIn_r _ [16, 3, 17, 26, 27, 28, 29, 30, 31, 32, 33, 34, 35, 36, 37, 38] (by decide +kernel) (by decide +kernel)
set_option maxRecDepth 20000 in
theorem gX4_freeDoor_X4_doorAt : GoodIn wsX4_freeDoor (wsV RX4 164 RX4 yX4_doorAt wsX4_doorAt) := goodIn_app (goodIn_of _ (by decide +kernel)) ggX4_freeDoor_X4_doorAt
set_option maxRecDepth 20000 in
theorem ggX4_freeDoor_X1_canTake : GoodIn wsX4_freeDoor wsX1_canTake := goodIn_r _ [22, 23, 24, 25, 39, 40, 41, 42, 43, 44, 45, 46, 47, 48, 49, 50] (by decide +kernel) (by decide +kernel)
set_option maxRecDepth 20000 in
theorem gX4_freeDoor_X1_canTake : GoodIn wsX4_freeDoor (wsV RX4 173 RX1 yX1_canTake wsX1_canTake) := goodIn_app (goodIn_of _ (by decide +kernel)) ggX4_freeDoor_X1_canTake
theorem dX4_freeDoor_0 : decode cX4_freeDoor 0 = .ok (.aload_n 0, 1) := by decide +kernel
theorem dX4_freeDoor_1 : decode cX4_freeDoor 1 = .ok (.iload_n 1, 1) := by decide +kernel
theorem dX4_freeDoor_2 : decode cX4_freeDoor 2 = .ok (.invokevirtual 94, 3) := by decide +kernel
theorem dX4_freeDoor_5 : decode cX4_freeDoor 5 = .ok (.astore_n 2, 1) := by decide +kernel
theorem dX4_freeDoor_6 : decode cX4_freeDoor 6 = .ok (.iconst (-1), 1) := by decide +kernel
theorem dX4_freeDoor_7 : decode cX4_freeDoor 7 = .ok (.istore_n 3, 1) := by decide +kernel
theorem dX4_freeDoor_8 : decode cX4_freeDoor 8 = .ok (.iconst 0, 1) := by decide +kernel
theorem dX4_freeDoor_9 : decode cX4_freeDoor 9 = .ok (.istore 4, 2) := by decide +kernel
theorem dX4_freeDoor_11 : decode cX4_freeDoor 11 = .ok (.iload 4, 2) := by decide +kernel
theorem dX4_freeDoor_13 : decode cX4_freeDoor 13 = .ok (.aload_n 0, 1) := by decide +kernel
theorem dX4_freeDoor_14 : decode cX4_freeDoor 14 = .ok (.getfield 69, 3) := by decide +kernel
theorem dX4_freeDoor_17 : decode cX4_freeDoor 17 = .ok (.if_icmp .ge 38, 3) := by decide +kernel
theorem dX4_freeDoor_20 : decode cX4_freeDoor 20 = .ok (.iload_n 3, 1) := by decide +kernel
theorem dX4_freeDoor_21 : decode cX4_freeDoor 21 = .ok (.ifCond .ge 34, 3) := by decide +kernel
theorem dX4_freeDoor_24 : decode cX4_freeDoor 24 = .ok (.aload_n 0, 1) := by decide +kernel
theorem dX4_freeDoor_25 : decode cX4_freeDoor 25 = .ok (.iload 4, 2) := by decide +kernel
theorem dX4_freeDoor_27 : decode cX4_freeDoor 27 = .ok (.invokevirtual 164, 3) := by decide +kernel
theorem dX4_freeDoor_30 : decode cX4_freeDoor 30 = .ok (.astore 5, 2) := by decide +kernel
theorem dX4_freeDoor_32 : decode cX4_freeDoor 32 = .ok (.aload 5, 2) := by decide +kernel
theorem dX4_freeDoor_34 : decode cX4_freeDoor 34 = .ok (.ifnull 15, 3) := by decide +kernel
theorem dX4_freeDoor_37 : decode cX4_freeDoor 37 = .ok (.aload 5, 2) := by decide +kernel
theorem dX4_freeDoor_39 : decode cX4_freeDoor 39 = .ok (.aload_n 2, 1) := by decide +kernel
theorem dX4_freeDoor_40 : decode cX4_freeDoor 40 = .ok (.invokevirtual 173, 3) := by decide +kernel
theorem dX4_freeDoor_43 : decode cX4_freeDoor 43 = .ok (.ifCond .eq 6, 3) := by decide +kernel
theorem dX4_freeDoor_46 : decode cX4_freeDoor 46 = .ok (.iload 4, 2) := by decide +kernel
theorem dX4_freeDoor_48 : decode cX4_freeDoor 48 = .ok (.istore_n 3, 1) := by decide +kernel
theorem dX4_freeDoor_49 : decode cX4_freeDoor 49 = .ok (.iinc 4 1, 3) := by decide +kernel
theorem dX4_freeDoor_52 : decode cX4_freeDoor 52 = .ok (.goto (-41), 3) := by decide +kernel
theorem dX4_freeDoor_55 : decode cX4_freeDoor 55 = .ok (.iload_n 3, 1) := by decide +kernel
theorem dX4_freeDoor_56 : decode cX4_freeDoor 56 = .ok (.ifCond .ge 13, 3) := by decide +kernel
theorem dX4_freeDoor_59 : decode cX4_freeDoor 59 = .ok (.new 58, 3) := by decide +kernel
theorem dX4_freeDoor_62 : decode cX4_freeDoor 62 = .ok (.dup, 1) := by decide +kernel
theorem dX4_freeDoor_63 : decode cX4_freeDoor 63 = .ok (.ldc 170, 2) := by decide +kernel
theorem dX4_freeDoor_65 : decode cX4_freeDoor 65 = .ok (.invokespecial 62, 3) := by decide +kernel
theorem dX4_freeDoor_68 : decode cX4_freeDoor 68 = .ok (.athrow, 1) := by decide +kernel
theorem dX4_freeDoor_69 : decode cX4_freeDoor 69 = .ok (.iload_n 3, 1) := by decide +kernel
theorem dX4_freeDoor_70 : decode cX4_freeDoor 70 = .ok (.ireturn, 1) := by decide +kernel
set_option maxRecDepth 20000 in
theorem ggX4_fewestMoves_X4_appointmentOrThrow : GoodIn wsX4_fewestMoves wsX4_appointmentOrThrow := goodIn_ca (goodIn_r _ [8, 9, 10, 11, 12, 67, 68, 69, 70, 71, 72, 73, 74, 75, 76, 77, 78, 79] (by decide +kernel) (by decide +kernel)) (goodIn_sub (fun _ h => List.mem_cons_of_mem _ (List.mem_append_left _ (List.mem_append_right _ h))) (by decide +kernel))
set_option maxRecDepth 20000 in
theorem gX4_fewestMoves_X4_appointmentOrThrow : GoodIn wsX4_fewestMoves (wsV RX4 94 RX4 yX4_appointmentOrThrow wsX4_appointmentOrThrow) := goodIn_app (goodIn_of _ (by decide +kernel)) ggX4_fewestMoves_X4_appointmentOrThrow
set_option maxRecDepth 20000 in
theorem ggX4_fewestMoves_X4_homeOrThrow : GoodIn wsX4_fewestMoves wsX4_homeOrThrow := goodIn_ca (goodIn_r _ [15, 16, 17, 18, 80, 81, 82, 83, 84, 85, 86, 87, 88, 89] (by decide +kernel) (by decide +kernel)) (goodIn_sub (fun _ h => List.mem_cons_of_mem _ (List.mem_append_right _ h)) (by decide +kernel))
set_option maxRecDepth 20000 in
theorem gX4_fewestMoves_X4_homeOrThrow : GoodIn wsX4_fewestMoves (va_wsS RX4 202 yX4_homeOrThrow wsX4_homeOrThrow) := goodIn_app (goodIn_of _ (by decide +kernel)) ggX4_fewestMoves_X4_homeOrThrow
set_option maxRecDepth 20000 in
theorem ggX4_fewestMoves_X4_isReachedWithin : GoodIn wsX4_fewestMoves wsX4_isReachedWithin := goodIn_r _ [21, 22, 23, 24, 25, 26, 27, 28, 29, 30, 31, 32, 33, 34, 35, 36, 37, 38, 39, 40, 41, 42, 43, 44, 45, 46, 47, 48, 49, 50, 51, 52, 53, 54, 55, 56, 57, 58, 59, 60, 61, 62, 63, 64, 65, 66, 19, 20, 7, 90, 91, 92, 93, 94, 95, 96, 80, 81, 82, 83, 84, 85, 86, 87, 88, 89] (by decide +kernel) (by decide +kernel)
set_option maxRecDepth 20000 in
theorem gX4_fewestMoves_X4_isReachedWithin : GoodIn wsX4_fewestMoves (va_wsS RX4 213 yX4_isReachedWithin wsX4_isReachedWithin) := goodIn_app (goodIn_of _ (by decide +kernel)) ggX4_fewestMoves_X4_isReachedWithin
theorem dX4_fewestMoves_0 : decode cX4_fewestMoves 0 = .ok (.aload_n 0, 1) := by decide +kernel
theorem dX4_fewestMoves_1 : decode cX4_fewestMoves 1 = .ok (.iload_n 1, 1) := by decide +kernel
theorem dX4_fewestMoves_2 : decode cX4_fewestMoves 2 = .ok (.invokevirtual 94, 3) := by decide +kernel
theorem dX4_fewestMoves_5 : decode cX4_fewestMoves 5 = .ok (.astore_n 2, 1) := by decide +kernel
theorem dX4_fewestMoves_6 : decode cX4_fewestMoves 6 = .ok (.aload_n 2, 1) := by decide +kernel
theorem dX4_fewestMoves_7 : decode cX4_fewestMoves 7 = .ok (.invokestatic 202, 3) := by decide +kernel
theorem dX4_fewestMoves_10 : decode cX4_fewestMoves 10 = .ok (.astore_n 3, 1) := by decide +kernel
theorem dX4_fewestMoves_11 : decode cX4_fewestMoves 11 = .ok (.iconst 0, 1) := by decide +kernel
theorem dX4_fewestMoves_12 : decode cX4_fewestMoves 12 = .ok (.istore 4, 2) := by decide +kernel
theorem dX4_fewestMoves_14 : decode cX4_fewestMoves 14 = .ok (.iload 4, 2) := by decide +kernel
theorem dX4_fewestMoves_16 : decode cX4_fewestMoves 16 = .ok (.iconst 4, 1) := by decide +kernel
theorem dX4_fewestMoves_17 : decode cX4_fewestMoves 17 = .ok (.if_icmp .gt 23, 3) := by decide +kernel
theorem dX4_fewestMoves_20 : decode cX4_fewestMoves 20 = .ok (.aload_n 0, 1) := by decide +kernel
theorem dX4_fewestMoves_21 : decode cX4_fewestMoves 21 = .ok (.getfield 10, 3) := by decide +kernel
theorem dX4_fewestMoves_24 : decode cX4_fewestMoves 24 = .ok (.aload_n 3, 1) := by decide +kernel
theorem dX4_fewestMoves_25 : decode cX4_fewestMoves 25 = .ok (.aload_n 2, 1) := by decide +kernel
theorem dX4_fewestMoves_26 : decode cX4_fewestMoves 26 = .ok (.iload 4, 2) := by decide +kernel
theorem dX4_fewestMoves_28 : decode cX4_fewestMoves 28 = .ok (.invokestatic 213, 3) := by decide +kernel
theorem dX4_fewestMoves_31 : decode cX4_fewestMoves 31 = .ok (.ifCond .ne 9, 3) := by decide +kernel
theorem dX4_fewestMoves_34 : decode cX4_fewestMoves 34 = .ok (.iinc 4 1, 3) := by decide +kernel
theorem dX4_fewestMoves_37 : decode cX4_fewestMoves 37 = .ok (.goto (-23), 3) := by decide +kernel
theorem dX4_fewestMoves_40 : decode cX4_fewestMoves 40 = .ok (.iload 4, 2) := by decide +kernel
theorem dX4_fewestMoves_42 : decode cX4_fewestMoves 42 = .ok (.iconst 4, 1) := by decide +kernel
theorem dX4_fewestMoves_43 : decode cX4_fewestMoves 43 = .ok (.if_icmp .le 13, 3) := by decide +kernel
theorem dX4_fewestMoves_46 : decode cX4_fewestMoves 46 = .ok (.new 120, 3) := by decide +kernel
theorem dX4_fewestMoves_49 : decode cX4_fewestMoves 49 = .ok (.dup, 1) := by decide +kernel
theorem dX4_fewestMoves_50 : decode cX4_fewestMoves 50 = .ok (.ldc 217, 2) := by decide +kernel
theorem dX4_fewestMoves_52 : decode cX4_fewestMoves 52 = .ok (.invokespecial 124, 3) := by decide +kernel
theorem dX4_fewestMoves_55 : decode cX4_fewestMoves 55 = .ok (.athrow, 1) := by decide +kernel
theorem dX4_fewestMoves_56 : decode cX4_fewestMoves 56 = .ok (.iload 4, 2) := by decide +kernel
theorem dX4_fewestMoves_58 : decode cX4_fewestMoves 58 = .ok (.ireturn, 1) := by decide +kernel
set_option maxRecDepth 20000 in
theorem ggX4_fewestByOrders_X4_appointmentOrThrow : GoodIn wsX4_fewestByOrders wsX4_appointmentOrThrow := goodIn_ca (goodIn_r _ [8, 9, 10, 11, 12, 71, 72, 73, 74, 75, 76, 77, 78, 79, 80, 81, 82, 83] (by decide +kernel) (by decide +kernel)) (goodIn_sub (fun _ h => List.mem_cons_of_mem _ (List.mem_append_left _ (List.mem_append_right _ h))) (by decide +kernel))
set_option maxRecDepth 20000 in
theorem gX4_fewestByOrders_X4_appointmentOrThrow : GoodIn wsX4_fewestByOrders (wsV RX4 94 RX4 yX4_appointmentOrThrow wsX4_appointmentOrThrow) := goodIn_app (goodIn_of _ (by decide +kernel)) ggX4_fewestByOrders_X4_appointmentOrThrow
set_option maxRecDepth 20000 in
theorem ggX4_fewestByOrders_X4_homeOrThrow : GoodIn wsX4_fewestByOrders wsX4_homeOrThrow := goodIn_ca (goodIn_r _ [15, 16, 17, 18, 84, 85, 86, 87, 88, 89, 90, 91, 92, 93] (by decide +kernel) (by decide +kernel)) (goodIn_sub (fun _ h => List.mem_cons_of_mem _ (List.mem_append_right _ h)) (by decide +kernel))
set_option maxRecDepth 20000 in
theorem gX4_fewestByOrders_X4_homeOrThrow : GoodIn wsX4_fewestByOrders (va_wsS RX4 202 yX4_homeOrThrow wsX4_homeOrThrow) := goodIn_app (goodIn_of _ (by decide +kernel)) ggX4_fewestByOrders_X4_homeOrThrow
set_option maxRecDepth 20000 in
theorem ggX4_fewestByOrders_X4_bestOfOrders : GoodIn wsX4_fewestByOrders wsX4_bestOfOrders := goodIn_r _ [21, 22, 23, 24, 25, 26, 27, 28, 29, 30, 31, 32, 33, 34, 35, 36, 37, 38, 39, 40, 41, 42, 43, 44, 45, 46, 47, 48, 49, 50, 51, 52, 53, 54, 55, 56, 57, 58, 59, 60, 61, 62, 63, 64, 65, 66, 67, 68, 69, 70, 19, 20, 7, 94, 95, 96, 97, 98, 99, 100, 84, 85, 86, 87, 88, 89, 90, 91, 92, 93] (by decide +kernel) (by decide +kernel)
set_option maxRecDepth 20000 in
theorem gX4_fewestByOrders_X4_bestOfOrders : GoodIn wsX4_fewestByOrders (va_wsS RX4 219 yX4_bestOfOrders wsX4_bestOfOrders) := goodIn_app (goodIn_of _ (by decide +kernel)) ggX4_fewestByOrders_X4_bestOfOrders
theorem dX4_fewestByOrders_0 : decode cX4_fewestByOrders 0 = .ok (.aload_n 0, 1) := by decide +kernel
theorem dX4_fewestByOrders_1 : decode cX4_fewestByOrders 1 = .ok (.iload_n 1, 1) := by decide +kernel
theorem dX4_fewestByOrders_2 : decode cX4_fewestByOrders 2 = .ok (.invokevirtual 94, 3) := by decide +kernel
theorem dX4_fewestByOrders_5 : decode cX4_fewestByOrders 5 = .ok (.astore_n 2, 1) := by decide +kernel
theorem dX4_fewestByOrders_6 : decode cX4_fewestByOrders 6 = .ok (.aload_n 2, 1) := by decide +kernel
theorem dX4_fewestByOrders_7 : decode cX4_fewestByOrders 7 = .ok (.invokestatic 202, 3) := by decide +kernel
theorem dX4_fewestByOrders_10 : decode cX4_fewestByOrders 10 = .ok (.astore_n 3, 1) := by decide +kernel
theorem dX4_fewestByOrders_11 : decode cX4_fewestByOrders 11 = .ok (.aload_n 0, 1) := by decide +kernel
theorem dX4_fewestByOrders_12 : decode cX4_fewestByOrders 12 = .ok (.getfield 10, 3) := by decide +kernel
theorem dX4_fewestByOrders_15 : decode cX4_fewestByOrders 15 = .ok (.aload_n 3, 1) := by decide +kernel
theorem dX4_fewestByOrders_16 : decode cX4_fewestByOrders 16 = .ok (.aload_n 2, 1) := by decide +kernel
theorem dX4_fewestByOrders_17 : decode cX4_fewestByOrders 17 = .ok (.iconst 0, 1) := by decide +kernel
theorem dX4_fewestByOrders_18 : decode cX4_fewestByOrders 18 = .ok (.iconst 5, 1) := by decide +kernel
theorem dX4_fewestByOrders_19 : decode cX4_fewestByOrders 19 = .ok (.invokestatic 219, 3) := by decide +kernel
theorem dX4_fewestByOrders_22 : decode cX4_fewestByOrders 22 = .ok (.istore 4, 2) := by decide +kernel
theorem dX4_fewestByOrders_24 : decode cX4_fewestByOrders 24 = .ok (.iload 4, 2) := by decide +kernel
theorem dX4_fewestByOrders_26 : decode cX4_fewestByOrders 26 = .ok (.iconst 4, 1) := by decide +kernel
theorem dX4_fewestByOrders_27 : decode cX4_fewestByOrders 27 = .ok (.if_icmp .le 13, 3) := by decide +kernel
theorem dX4_fewestByOrders_30 : decode cX4_fewestByOrders 30 = .ok (.new 120, 3) := by decide +kernel
theorem dX4_fewestByOrders_33 : decode cX4_fewestByOrders 33 = .ok (.dup, 1) := by decide +kernel
theorem dX4_fewestByOrders_34 : decode cX4_fewestByOrders 34 = .ok (.ldc 217, 2) := by decide +kernel
theorem dX4_fewestByOrders_36 : decode cX4_fewestByOrders 36 = .ok (.invokespecial 124, 3) := by decide +kernel
theorem dX4_fewestByOrders_39 : decode cX4_fewestByOrders 39 = .ok (.athrow, 1) := by decide +kernel
theorem dX4_fewestByOrders_40 : decode cX4_fewestByOrders 40 = .ok (.iload 4, 2) := by decide +kernel
theorem dX4_fewestByOrders_42 : decode cX4_fewestByOrders 42 = .ok (.ireturn, 1) := by decide +kernel
set_option maxRecDepth 20000 in
theorem ggX4_pass_X4_isOutside : GoodIn wsX4_pass wsX4_isOutside := goodIn_r _ [11] (by decide +kernel) (by decide +kernel)
set_option maxRecDepth 20000 in
theorem gX4_pass_X4_isOutside : GoodIn wsX4_pass (va_wsS RX4 44 yX4_isOutside wsX4_isOutside) := goodIn_app (goodIn_of _ (by decide +kernel)) ggX4_pass_X4_isOutside
theorem dX4_pass_0 : decode cX4_pass 0 = .ok (.iload_n 1, 1) := by decide +kernel
theorem dX4_pass_1 : decode cX4_pass 1 = .ok (.iconst 1, 1) := by decide +kernel
theorem dX4_pass_2 : decode cX4_pass 2 = .ok (.bipush 99, 2) := by decide +kernel
theorem dX4_pass_4 : decode cX4_pass 4 = .ok (.invokestatic 44, 3) := by decide +kernel
theorem dX4_pass_7 : decode cX4_pass 7 = .ok (.ifCond .eq 13, 3) := by decide +kernel
theorem dX4_pass_10 : decode cX4_pass 10 = .ok (.new 48, 3) := by decide +kernel
theorem dX4_pass_13 : decode cX4_pass 13 = .ok (.dup, 1) := by decide +kernel
theorem dX4_pass_14 : decode cX4_pass 14 = .ok (.ldc 223, 2) := by decide +kernel
theorem dX4_pass_16 : decode cX4_pass 16 = .ok (.invokespecial 52, 3) := by decide +kernel
theorem dX4_pass_19 : decode cX4_pass 19 = .ok (.athrow, 1) := by decide +kernel
theorem dX4_pass_20 : decode cX4_pass 20 = .ok (.aload_n 0, 1) := by decide +kernel
theorem dX4_pass_21 : decode cX4_pass 21 = .ok (.dup, 1) := by decide +kernel
theorem dX4_pass_22 : decode cX4_pass 22 = .ok (.getfield 81, 3) := by decide +kernel
theorem dX4_pass_25 : decode cX4_pass 25 = .ok (.iload_n 1, 1) := by decide +kernel
theorem dX4_pass_26 : decode cX4_pass 26 = .ok (.iadd, 1) := by decide +kernel
theorem dX4_pass_27 : decode cX4_pass 27 = .ok (.putfield 81, 3) := by decide +kernel
theorem dX4_pass_30 : decode cX4_pass 30 = .ok (.iconst 0, 1) := by decide +kernel
theorem dX4_pass_31 : decode cX4_pass 31 = .ok (.istore_n 2, 1) := by decide +kernel
theorem dX4_pass_32 : decode cX4_pass 32 = .ok (.iconst 0, 1) := by decide +kernel
theorem dX4_pass_33 : decode cX4_pass 33 = .ok (.istore_n 3, 1) := by decide +kernel
theorem dX4_pass_34 : decode cX4_pass 34 = .ok (.iload_n 3, 1) := by decide +kernel
theorem dX4_pass_35 : decode cX4_pass 35 = .ok (.aload_n 0, 1) := by decide +kernel
theorem dX4_pass_36 : decode cX4_pass 36 = .ok (.getfield 86, 3) := by decide +kernel
theorem dX4_pass_39 : decode cX4_pass 39 = .ok (.if_icmp .ge 66, 3) := by decide +kernel
theorem dX4_pass_42 : decode cX4_pass 42 = .ok (.iload_n 3, 1) := by decide +kernel
theorem dX4_pass_43 : decode cX4_pass 43 = .ok (.aload_n 0, 1) := by decide +kernel
theorem dX4_pass_44 : decode cX4_pass 44 = .ok (.getfield 24, 3) := by decide +kernel
theorem dX4_pass_47 : decode cX4_pass 47 = .ok (.arraylength, 1) := by decide +kernel
theorem dX4_pass_48 : decode cX4_pass 48 = .ok (.if_icmp .ge 57, 3) := by decide +kernel
theorem dX4_pass_51 : decode cX4_pass 51 = .ok (.aload_n 0, 1) := by decide +kernel
theorem dX4_pass_52 : decode cX4_pass 52 = .ok (.getfield 24, 3) := by decide +kernel
theorem dX4_pass_55 : decode cX4_pass 55 = .ok (.iload_n 3, 1) := by decide +kernel
theorem dX4_pass_56 : decode cX4_pass 56 = .ok (.aaload, 1) := by decide +kernel
theorem dX4_pass_57 : decode cX4_pass 57 = .ok (.astore 4, 2) := by decide +kernel
theorem dX4_pass_59 : decode cX4_pass 59 = .ok (.aload 4, 2) := by decide +kernel
theorem dX4_pass_61 : decode cX4_pass 61 = .ok (.ifnull 38, 3) := by decide +kernel
theorem dX4_pass_64 : decode cX4_pass 64 = .ok (.aload 4, 2) := by decide +kernel
theorem dX4_pass_66 : decode cX4_pass 66 = .ok (.getfield 102, 3) := by decide +kernel
theorem dX4_pass_69 : decode cX4_pass 69 = .ok (.bipush 98, 2) := by decide +kernel
theorem dX4_pass_71 : decode cX4_pass 71 = .ok (.if_icmp .ne 28, 3) := by decide +kernel
theorem dX4_pass_74 : decode cX4_pass 74 = .ok (.aload_n 0, 1) := by decide +kernel
theorem dX4_pass_75 : decode cX4_pass 75 = .ok (.getfield 81, 3) := by decide +kernel
theorem dX4_pass_78 : decode cX4_pass 78 = .ok (.aload 4, 2) := by decide +kernel
theorem dX4_pass_80 : decode cX4_pass 80 = .ok (.getfield 139, 3) := by decide +kernel
theorem dX4_pass_83 : decode cX4_pass 83 = .ok (.isub, 1) := by decide +kernel
theorem dX4_pass_84 : decode cX4_pass 84 = .ok (.bipush 24, 2) := by decide +kernel
theorem dX4_pass_86 : decode cX4_pass 86 = .ok (.if_icmp .le 13, 3) := by decide +kernel
theorem dX4_pass_89 : decode cX4_pass 89 = .ok (.aload 4, 2) := by decide +kernel
theorem dX4_pass_91 : decode cX4_pass 91 = .ok (.bipush 110, 2) := by decide +kernel
theorem dX4_pass_93 : decode cX4_pass 93 = .ok (.putfield 102, 3) := by decide +kernel
theorem dX4_pass_96 : decode cX4_pass 96 = .ok (.iinc 2 1, 3) := by decide +kernel
theorem dX4_pass_99 : decode cX4_pass 99 = .ok (.iinc 3 1, 3) := by decide +kernel
theorem dX4_pass_102 : decode cX4_pass 102 = .ok (.goto (-68), 3) := by decide +kernel
theorem dX4_pass_105 : decode cX4_pass 105 = .ok (.iload_n 2, 1) := by decide +kernel
theorem dX4_pass_106 : decode cX4_pass 106 = .ok (.ireturn, 1) := by decide +kernel
theorem dX4_time_0 : decode cX4_time 0 = .ok (.aload_n 0, 1) := by decide +kernel
theorem dX4_time_1 : decode cX4_time 1 = .ok (.getfield 81, 3) := by decide +kernel
theorem dX4_time_4 : decode cX4_time 4 = .ok (.ireturn, 1) := by decide +kernel
set_option maxRecDepth 20000 in
theorem ggX4_waited_X4_arrivedOrThrow : GoodIn wsX4_waited wsX4_arrivedOrThrow := goodIn_ca (goodIn_ca (goodIn_r _ [5, 6, 7, 8, 9, 10, 4, 11, 12, 13, 14, 15, 16, 17, 18, 19, 20, 21, 35, 36, 37, 38, 39, 40, 41, 42, 43, 44, 45, 46, 47, 48, 49, 50, 51, 52, 53, 54, 55, 56, 57] (by decide +kernel) (by decide +kernel)) (goodIn_sub (fun _ h => List.mem_cons_of_mem _ (List.mem_append_left _ (List.mem_append_right _ h))) (by decide +kernel))) (goodIn_sub (fun _ h => List.mem_cons_of_mem _ (List.mem_append_right _ h)) (by decide +kernel))
set_option maxRecDepth 20000 in
theorem gX4_waited_X4_arrivedOrThrow : GoodIn wsX4_waited (wsV RX4 136 RX4 yX4_arrivedOrThrow wsX4_arrivedOrThrow) := goodIn_app (goodIn_of _ (by decide +kernel)) ggX4_waited_X4_arrivedOrThrow
set_option maxRecDepth 20000 in
theorem ggX4_waited_X4_waitingHours : GoodIn wsX4_waited wsX4_waitingHours := goodIn_r _ [25, 26, 27, 28, 29, 30, 31, 32, 33, 34, 48, 49, 50, 51, 52, 53, 54, 55, 56, 57, 35, 36, 37, 38, 39, 40, 41, 42, 43, 44, 45, 46, 47] (by decide +kernel) (by decide +kernel)
set_option maxRecDepth 20000 in
theorem gX4_waited_X4_waitingHours : GoodIn wsX4_waited (wsV RX4 225 RX4 yX4_waitingHours wsX4_waitingHours) := goodIn_app (goodIn_of _ (by decide +kernel)) ggX4_waited_X4_waitingHours
theorem dX4_waited_0 : decode cX4_waited 0 = .ok (.aload_n 0, 1) := by decide +kernel
theorem dX4_waited_1 : decode cX4_waited 1 = .ok (.aload_n 0, 1) := by decide +kernel
theorem dX4_waited_2 : decode cX4_waited 2 = .ok (.iload_n 1, 1) := by decide +kernel
theorem dX4_waited_3 : decode cX4_waited 3 = .ok (.invokevirtual 136, 3) := by decide +kernel
theorem dX4_waited_6 : decode cX4_waited 6 = .ok (.invokevirtual 225, 3) := by decide +kernel
theorem dX4_waited_9 : decode cX4_waited 9 = .ok (.ireturn, 1) := by decide +kernel
set_option maxRecDepth 20000 in
theorem ggX4_charge_X4_arrivedOrThrow : GoodIn wsX4_charge wsX4_arrivedOrThrow := goodIn_ca (goodIn_ca (goodIn_r _ [5, 6, 7, 8, 9, 10, 4, 11, 12, 13, 14, 15, 16, 17, 18, 19, 20, 21, 51, 52, 53, 54, 55, 56, 57, 58, 59, 60, 61, 62, 63, 64, 65, 66, 67, 68, 69, 70, 71, 72, 73] (by decide +kernel) (by decide +kernel)) (goodIn_sub (fun _ h => List.mem_cons_of_mem _ (List.mem_append_left _ (List.mem_append_right _ h))) (by decide +kernel))) (goodIn_sub (fun _ h => List.mem_cons_of_mem _ (List.mem_append_right _ h)) (by decide +kernel))
set_option maxRecDepth 20000 in
theorem gX4_charge_X4_arrivedOrThrow : GoodIn wsX4_charge (wsV RX4 136 RX4 yX4_arrivedOrThrow wsX4_arrivedOrThrow) := goodIn_app (goodIn_of _ (by decide +kernel)) ggX4_charge_X4_arrivedOrThrow
set_option maxRecDepth 20000 in
theorem ggX4_charge_X4_chargeInSteps : GoodIn wsX4_charge wsX4_chargeInSteps := goodIn_r _ [25, 26, 27, 28, 29, 30, 31, 32, 33, 34, 35, 36, 37, 38, 39, 4, 40, 41, 42, 43, 44, 45, 46, 47, 48, 49, 50, 51, 52, 53, 54, 55, 56, 57, 58, 59, 60, 61, 62, 63, 64, 65, 66, 67, 68, 69, 70, 71, 72, 73] (by decide +kernel) (by decide +kernel)
set_option maxRecDepth 20000 in
theorem gX4_charge_X4_chargeInSteps : GoodIn wsX4_charge (wsV RX4 194 RX4 yX4_chargeInSteps wsX4_chargeInSteps) := goodIn_app (goodIn_of _ (by decide +kernel)) ggX4_charge_X4_chargeInSteps
theorem dX4_charge_0 : decode cX4_charge 0 = .ok (.aload_n 0, 1) := by decide +kernel
theorem dX4_charge_1 : decode cX4_charge 1 = .ok (.aload_n 0, 1) := by decide +kernel
theorem dX4_charge_2 : decode cX4_charge 2 = .ok (.iload_n 1, 1) := by decide +kernel
theorem dX4_charge_3 : decode cX4_charge 3 = .ok (.invokevirtual 136, 3) := by decide +kernel
theorem dX4_charge_6 : decode cX4_charge 6 = .ok (.invokevirtual 194, 3) := by decide +kernel
theorem dX4_charge_9 : decode cX4_charge 9 = .ok (.ireturn, 1) := by decide +kernel
set_option maxRecDepth 20000 in
theorem ggX4_chargeByHours_X4_arrivedOrThrow : GoodIn wsX4_chargeByHours wsX4_arrivedOrThrow := goodIn_ca (goodIn_ca (goodIn_r _ [5, 6, 7, 8, 9, 10, 4, 11, 12, 13, 14, 15, 16, 17, 18, 19, 20, 21, 48, 49, 50, 51, 52, 53, 54, 55, 56, 57, 58, 59, 60, 61, 62, 63, 64, 65, 66, 67, 68, 69, 70] (by decide +kernel) (by decide +kernel)) (goodIn_sub (fun _ h => List.mem_cons_of_mem _ (List.mem_append_left _ (List.mem_append_right _ h))) (by decide +kernel))) (goodIn_sub (fun _ h => List.mem_cons_of_mem _ (List.mem_append_right _ h)) (by decide +kernel))
set_option maxRecDepth 20000 in
theorem gX4_chargeByHours_X4_arrivedOrThrow : GoodIn wsX4_chargeByHours (wsV RX4 136 RX4 yX4_arrivedOrThrow wsX4_arrivedOrThrow) := goodIn_app (goodIn_of _ (by decide +kernel)) ggX4_chargeByHours_X4_arrivedOrThrow
set_option maxRecDepth 20000 in
theorem ggX4_chargeByHours_X4_punctualityOf : GoodIn wsX4_chargeByHours wsX4_punctualityOf := goodIn_r _ [25, 26, 27, 28, 61, 62, 63, 64, 65, 66, 67, 68, 69, 70, 48, 49, 50, 51, 52, 53, 54, 55, 56, 57, 58, 59, 60] (by decide +kernel) (by decide +kernel)
set_option maxRecDepth 20000 in
theorem gX4_chargeByHours_X4_punctualityOf : GoodIn wsX4_chargeByHours (wsV RX4 132 RX4 yX4_punctualityOf wsX4_punctualityOf) := goodIn_app (goodIn_of _ (by decide +kernel)) ggX4_chargeByHours_X4_punctualityOf
set_option maxRecDepth 20000 in
theorem ggX4_chargeByHours_X4_waitingHours : GoodIn wsX4_chargeByHours wsX4_waitingHours := goodIn_r _ [32, 26, 27, 33, 34, 35, 36, 37, 38, 39, 61, 62, 63, 64, 65, 66, 67, 68, 69, 70, 48, 49, 50, 51, 52, 53, 54, 55, 56, 57, 58, 59, 60] (by decide +kernel) (by decide +kernel)
set_option maxRecDepth 20000 in
theorem gX4_chargeByHours_X4_waitingHours : GoodIn wsX4_chargeByHours (wsV RX4 225 RX4 yX4_waitingHours wsX4_waitingHours) := goodIn_app (goodIn_of _ (by decide +kernel)) ggX4_chargeByHours_X4_waitingHours
set_option maxRecDepth 20000 in
theorem ggX4_chargeByHours_X4_rateOfHour : GoodIn wsX4_chargeByHours wsX4_rateOfHour := goodIn_r _ [43, 44, 45, 46, 47, 48, 49, 50, 51, 52, 53, 54, 55, 56, 57, 58, 59, 60] (by decide +kernel) (by decide +kernel)
set_option maxRecDepth 20000 in
theorem gX4_chargeByHours_X4_rateOfHour : GoodIn wsX4_chargeByHours (wsV RX4 228 RX4 yX4_rateOfHour wsX4_rateOfHour) := goodIn_app (goodIn_of _ (by decide +kernel)) ggX4_chargeByHours_X4_rateOfHour
theorem dX4_chargeByHours_0 : decode cX4_chargeByHours 0 = .ok (.aload_n 0, 1) := by decide +kernel
theorem dX4_chargeByHours_1 : decode cX4_chargeByHours 1 = .ok (.iload_n 1, 1) := by decide +kernel
theorem dX4_chargeByHours_2 : decode cX4_chargeByHours 2 = .ok (.invokevirtual 136, 3) := by decide +kernel
theorem dX4_chargeByHours_5 : decode cX4_chargeByHours 5 = .ok (.astore_n 2, 1) := by decide +kernel
theorem dX4_chargeByHours_6 : decode cX4_chargeByHours 6 = .ok (.aload_n 0, 1) := by decide +kernel
theorem dX4_chargeByHours_7 : decode cX4_chargeByHours 7 = .ok (.aload_n 2, 1) := by decide +kernel
theorem dX4_chargeByHours_8 : decode cX4_chargeByHours 8 = .ok (.invokevirtual 132, 3) := by decide +kernel
theorem dX4_chargeByHours_11 : decode cX4_chargeByHours 11 = .ok (.bipush 108, 2) := by decide +kernel
theorem dX4_chargeByHours_13 : decode cX4_chargeByHours 13 = .ok (.if_icmp .ne 5, 3) := by decide +kernel
theorem dX4_chargeByHours_16 : decode cX4_chargeByHours 16 = .ok (.iconst 0, 1) := by decide +kernel
theorem dX4_chargeByHours_17 : decode cX4_chargeByHours 17 = .ok (.ireturn, 1) := by decide +kernel
theorem dX4_chargeByHours_18 : decode cX4_chargeByHours 18 = .ok (.aload_n 0, 1) := by decide +kernel
theorem dX4_chargeByHours_19 : decode cX4_chargeByHours 19 = .ok (.aload_n 2, 1) := by decide +kernel
theorem dX4_chargeByHours_20 : decode cX4_chargeByHours 20 = .ok (.invokevirtual 225, 3) := by decide +kernel
theorem dX4_chargeByHours_23 : decode cX4_chargeByHours 23 = .ok (.istore_n 3, 1) := by decide +kernel
theorem dX4_chargeByHours_24 : decode cX4_chargeByHours 24 = .ok (.iconst 0, 1) := by decide +kernel
theorem dX4_chargeByHours_25 : decode cX4_chargeByHours 25 = .ok (.istore 4, 2) := by decide +kernel
theorem dX4_chargeByHours_27 : decode cX4_chargeByHours 27 = .ok (.iconst 0, 1) := by decide +kernel
theorem dX4_chargeByHours_28 : decode cX4_chargeByHours 28 = .ok (.istore 5, 2) := by decide +kernel
theorem dX4_chargeByHours_30 : decode cX4_chargeByHours 30 = .ok (.iload 5, 2) := by decide +kernel
theorem dX4_chargeByHours_32 : decode cX4_chargeByHours 32 = .ok (.iload_n 3, 1) := by decide +kernel
theorem dX4_chargeByHours_33 : decode cX4_chargeByHours 33 = .ok (.if_icmp .ge 20, 3) := by decide +kernel
theorem dX4_chargeByHours_36 : decode cX4_chargeByHours 36 = .ok (.iload 4, 2) := by decide +kernel
theorem dX4_chargeByHours_38 : decode cX4_chargeByHours 38 = .ok (.aload_n 0, 1) := by decide +kernel
theorem dX4_chargeByHours_39 : decode cX4_chargeByHours 39 = .ok (.iload 5, 2) := by decide +kernel
theorem dX4_chargeByHours_41 : decode cX4_chargeByHours 41 = .ok (.invokevirtual 228, 3) := by decide +kernel
theorem dX4_chargeByHours_44 : decode cX4_chargeByHours 44 = .ok (.iadd, 1) := by decide +kernel
theorem dX4_chargeByHours_45 : decode cX4_chargeByHours 45 = .ok (.istore 4, 2) := by decide +kernel
theorem dX4_chargeByHours_47 : decode cX4_chargeByHours 47 = .ok (.iinc 5 1, 3) := by decide +kernel
theorem dX4_chargeByHours_50 : decode cX4_chargeByHours 50 = .ok (.goto (-20), 3) := by decide +kernel
theorem dX4_chargeByHours_53 : decode cX4_chargeByHours 53 = .ok (.iload 4, 2) := by decide +kernel
theorem dX4_chargeByHours_55 : decode cX4_chargeByHours 55 = .ok (.ireturn, 1) := by decide +kernel
theorem dX4_moves_0 : decode cX4_moves 0 = .ok (.aload_n 0, 1) := by decide +kernel
theorem dX4_moves_1 : decode cX4_moves 1 = .ok (.getfield 161, 3) := by decide +kernel
theorem dX4_moves_4 : decode cX4_moves 4 = .ok (.ireturn, 1) := by decide +kernel
theorem dX4_charged_0 : decode cX4_charged 0 = .ok (.aload_n 0, 1) := by decide +kernel
theorem dX4_charged_1 : decode cX4_charged 1 = .ok (.getfield 198, 3) := by decide +kernel
theorem dX4_charged_4 : decode cX4_charged 4 = .ok (.lreturn, 1) := by decide +kernel
set_option maxRecDepth 20000 in
theorem ggX4_usedShare_X4_doorAt : GoodIn wsX4_usedShare wsX4_doorAt := goodIn_r _ [9, 3, 10, 11, 12, 13, 14, 15, 16, 17, 18, 19, 20, 21, 22, 23] (by decide +kernel) (by decide +kernel)
set_option maxRecDepth 20000 in
theorem gX4_usedShare_X4_doorAt : GoodIn wsX4_usedShare (wsV RX4 164 RX4 yX4_doorAt wsX4_doorAt) := goodIn_app (goodIn_of _ (by decide +kernel)) ggX4_usedShare_X4_doorAt
theorem dX4_usedShare_0 : decode cX4_usedShare 0 = .ok (.aload_n 0, 1) := by decide +kernel
theorem dX4_usedShare_1 : decode cX4_usedShare 1 = .ok (.getfield 69, 3) := by decide +kernel
theorem dX4_usedShare_4 : decode cX4_usedShare 4 = .ok (.ifCond .gt 13, 3) := by decide +kernel
theorem dX4_usedShare_7 : decode cX4_usedShare 7 = .ok (.new 232, 3) := by decide +kernel
theorem dX4_usedShare_10 : decode cX4_usedShare 10 = .ok (.dup, 1) := by decide +kernel
theorem dX4_usedShare_11 : decode cX4_usedShare 11 = .ok (.ldc 234, 2) := by decide +kernel
theorem dX4_usedShare_13 : decode cX4_usedShare 13 = .ok (.invokespecial 236, 3) := by decide +kernel
theorem dX4_usedShare_16 : decode cX4_usedShare 16 = .ok (.athrow, 1) := by decide +kernel
theorem dX4_usedShare_17 : decode cX4_usedShare 17 = .ok (.iconst 0, 1) := by decide +kernel
theorem dX4_usedShare_18 : decode cX4_usedShare 18 = .ok (.istore_n 1, 1) := by decide +kernel
theorem dX4_usedShare_19 : decode cX4_usedShare 19 = .ok (.iconst 0, 1) := by decide +kernel
theorem dX4_usedShare_20 : decode cX4_usedShare 20 = .ok (.istore_n 2, 1) := by decide +kernel
theorem dX4_usedShare_21 : decode cX4_usedShare 21 = .ok (.iload_n 2, 1) := by decide +kernel
theorem dX4_usedShare_22 : decode cX4_usedShare 22 = .ok (.aload_n 0, 1) := by decide +kernel
theorem dX4_usedShare_23 : decode cX4_usedShare 23 = .ok (.getfield 69, 3) := by decide +kernel
theorem dX4_usedShare_26 : decode cX4_usedShare 26 = .ok (.if_icmp .ge 29, 3) := by decide +kernel
theorem dX4_usedShare_29 : decode cX4_usedShare 29 = .ok (.aload_n 0, 1) := by decide +kernel
theorem dX4_usedShare_30 : decode cX4_usedShare 30 = .ok (.iload_n 2, 1) := by decide +kernel
theorem dX4_usedShare_31 : decode cX4_usedShare 31 = .ok (.invokevirtual 164, 3) := by decide +kernel
theorem dX4_usedShare_34 : decode cX4_usedShare 34 = .ok (.astore_n 3, 1) := by decide +kernel
theorem dX4_usedShare_35 : decode cX4_usedShare 35 = .ok (.aload_n 3, 1) := by decide +kernel
theorem dX4_usedShare_36 : decode cX4_usedShare 36 = .ok (.ifnull 13, 3) := by decide +kernel
theorem dX4_usedShare_39 : decode cX4_usedShare 39 = .ok (.aload_n 3, 1) := by decide +kernel
theorem dX4_usedShare_40 : decode cX4_usedShare 40 = .ok (.getfield 176, 3) := by decide +kernel
theorem dX4_usedShare_43 : decode cX4_usedShare 43 = .ok (.ifCond .eq 6, 3) := by decide +kernel
theorem dX4_usedShare_46 : decode cX4_usedShare 46 = .ok (.iinc 1 1, 3) := by decide +kernel
theorem dX4_usedShare_49 : decode cX4_usedShare 49 = .ok (.iinc 2 1, 3) := by decide +kernel
theorem dX4_usedShare_52 : decode cX4_usedShare 52 = .ok (.goto (-31), 3) := by decide +kernel
theorem dX4_usedShare_55 : decode cX4_usedShare 55 = .ok (.iload_n 1, 1) := by decide +kernel
theorem dX4_usedShare_56 : decode cX4_usedShare 56 = .ok (.i2f, 1) := by decide +kernel
theorem dX4_usedShare_57 : decode cX4_usedShare 57 = .ok (.aload_n 0, 1) := by decide +kernel
theorem dX4_usedShare_58 : decode cX4_usedShare 58 = .ok (.getfield 69, 3) := by decide +kernel
theorem dX4_usedShare_61 : decode cX4_usedShare 61 = .ok (.i2f, 1) := by decide +kernel
theorem dX4_usedShare_62 : decode cX4_usedShare 62 = .ok (.fdiv, 1) := by decide +kernel
theorem dX4_usedShare_63 : decode cX4_usedShare 63 = .ok (.freturn, 1) := by decide +kernel
set_option maxRecDepth 20000 in
theorem ggX4_meanWaiting_X0_hasArrived : GoodIn wsX4_meanWaiting wsX0_hasArrived := goodIn_r _ [9, 10, 38, 39, 40, 41, 42, 43, 44, 45, 46, 47] (by decide +kernel) (by decide +kernel)
set_option maxRecDepth 20000 in
theorem gX4_meanWaiting_X0_hasArrived : GoodIn wsX4_meanWaiting (wsV RX4 237 RX0 yX0_hasArrived wsX0_hasArrived) := goodIn_app (goodIn_of _ (by decide +kernel)) ggX4_meanWaiting_X0_hasArrived
set_option maxRecDepth 20000 in
theorem ggX4_meanWaiting_X4_waitingHours : GoodIn wsX4_meanWaiting wsX4_waitingHours := goodIn_r _ [15, 16, 17, 18, 19, 20, 21, 22, 23, 24, 38, 39, 40, 41, 42, 43, 44, 45, 46, 47, 25, 26, 27, 28, 29, 30, 31, 32, 33, 34, 35, 36, 37] (by decide +kernel) (by decide +kernel)
set_option maxRecDepth 20000 in
theorem gX4_meanWaiting_X4_waitingHours : GoodIn wsX4_meanWaiting (wsV RX4 225 RX4 yX4_waitingHours wsX4_waitingHours) := goodIn_app (goodIn_of _ (by decide +kernel)) ggX4_meanWaiting_X4_waitingHours
theorem dX4_meanWaiting_0 : decode cX4_meanWaiting 0 = .ok (.iconst 0, 1) := by decide +kernel
theorem dX4_meanWaiting_1 : decode cX4_meanWaiting 1 = .ok (.istore_n 1, 1) := by decide +kernel
theorem dX4_meanWaiting_2 : decode cX4_meanWaiting 2 = .ok (.iconst 0, 1) := by decide +kernel
theorem dX4_meanWaiting_3 : decode cX4_meanWaiting 3 = .ok (.istore_n 2, 1) := by decide +kernel
theorem dX4_meanWaiting_4 : decode cX4_meanWaiting 4 = .ok (.iconst 0, 1) := by decide +kernel
theorem dX4_meanWaiting_5 : decode cX4_meanWaiting 5 = .ok (.istore_n 3, 1) := by decide +kernel
theorem dX4_meanWaiting_6 : decode cX4_meanWaiting 6 = .ok (.iload_n 3, 1) := by decide +kernel
theorem dX4_meanWaiting_7 : decode cX4_meanWaiting 7 = .ok (.aload_n 0, 1) := by decide +kernel
theorem dX4_meanWaiting_8 : decode cX4_meanWaiting 8 = .ok (.getfield 86, 3) := by decide +kernel
theorem dX4_meanWaiting_11 : decode cX4_meanWaiting 11 = .ok (.if_icmp .ge 51, 3) := by decide +kernel
theorem dX4_meanWaiting_14 : decode cX4_meanWaiting 14 = .ok (.iload_n 3, 1) := by decide +kernel
theorem dX4_meanWaiting_15 : decode cX4_meanWaiting 15 = .ok (.aload_n 0, 1) := by decide +kernel
theorem dX4_meanWaiting_16 : decode cX4_meanWaiting 16 = .ok (.getfield 24, 3) := by decide +kernel
theorem dX4_meanWaiting_19 : decode cX4_meanWaiting 19 = .ok (.arraylength, 1) := by decide +kernel
theorem dX4_meanWaiting_20 : decode cX4_meanWaiting 20 = .ok (.if_icmp .ge 42, 3) := by decide +kernel
theorem dX4_meanWaiting_23 : decode cX4_meanWaiting 23 = .ok (.aload_n 0, 1) := by decide +kernel
theorem dX4_meanWaiting_24 : decode cX4_meanWaiting 24 = .ok (.getfield 24, 3) := by decide +kernel
theorem dX4_meanWaiting_27 : decode cX4_meanWaiting 27 = .ok (.iload_n 3, 1) := by decide +kernel
theorem dX4_meanWaiting_28 : decode cX4_meanWaiting 28 = .ok (.aaload, 1) := by decide +kernel
theorem dX4_meanWaiting_29 : decode cX4_meanWaiting 29 = .ok (.astore 4, 2) := by decide +kernel
theorem dX4_meanWaiting_31 : decode cX4_meanWaiting 31 = .ok (.aload 4, 2) := by decide +kernel
theorem dX4_meanWaiting_33 : decode cX4_meanWaiting 33 = .ok (.ifnull 23, 3) := by decide +kernel
theorem dX4_meanWaiting_36 : decode cX4_meanWaiting 36 = .ok (.aload 4, 2) := by decide +kernel
theorem dX4_meanWaiting_38 : decode cX4_meanWaiting 38 = .ok (.invokevirtual 237, 3) := by decide +kernel
theorem dX4_meanWaiting_41 : decode cX4_meanWaiting 41 = .ok (.ifCond .eq 15, 3) := by decide +kernel
theorem dX4_meanWaiting_44 : decode cX4_meanWaiting 44 = .ok (.iload_n 1, 1) := by decide +kernel
theorem dX4_meanWaiting_45 : decode cX4_meanWaiting 45 = .ok (.aload_n 0, 1) := by decide +kernel
theorem dX4_meanWaiting_46 : decode cX4_meanWaiting 46 = .ok (.aload 4, 2) := by decide +kernel
theorem dX4_meanWaiting_48 : decode cX4_meanWaiting 48 = .ok (.invokevirtual 225, 3) := by decide +kernel
theorem dX4_meanWaiting_51 : decode cX4_meanWaiting 51 = .ok (.iadd, 1) := by decide +kernel
theorem dX4_meanWaiting_52 : decode cX4_meanWaiting 52 = .ok (.istore_n 1, 1) := by decide +kernel
theorem dX4_meanWaiting_53 : decode cX4_meanWaiting 53 = .ok (.iinc 2 1, 3) := by decide +kernel
theorem dX4_meanWaiting_56 : decode cX4_meanWaiting 56 = .ok (.iinc 3 1, 3) := by decide +kernel
theorem dX4_meanWaiting_59 : decode cX4_meanWaiting 59 = .ok (.goto (-53), 3) := by decide +kernel
theorem dX4_meanWaiting_62 : decode cX4_meanWaiting 62 = .ok (.iload_n 2, 1) := by decide +kernel
theorem dX4_meanWaiting_63 : decode cX4_meanWaiting 63 = .ok (.ifCond .gt 13, 3) := by decide +kernel
theorem dX4_meanWaiting_66 : decode cX4_meanWaiting 66 = .ok (.new 232, 3) := by decide +kernel
theorem dX4_meanWaiting_69 : decode cX4_meanWaiting 69 = .ok (.dup, 1) := by decide +kernel
theorem dX4_meanWaiting_70 : decode cX4_meanWaiting 70 = .ok (.ldc 241, 2) := by decide +kernel
theorem dX4_meanWaiting_72 : decode cX4_meanWaiting 72 = .ok (.invokespecial 236, 3) := by decide +kernel
theorem dX4_meanWaiting_75 : decode cX4_meanWaiting 75 = .ok (.athrow, 1) := by decide +kernel
theorem dX4_meanWaiting_76 : decode cX4_meanWaiting 76 = .ok (.iload_n 1, 1) := by decide +kernel
theorem dX4_meanWaiting_77 : decode cX4_meanWaiting 77 = .ok (.i2d, 1) := by decide +kernel
theorem dX4_meanWaiting_78 : decode cX4_meanWaiting 78 = .ok (.iload_n 2, 1) := by decide +kernel
theorem dX4_meanWaiting_79 : decode cX4_meanWaiting 79 = .ok (.i2d, 1) := by decide +kernel
theorem dX4_meanWaiting_80 : decode cX4_meanWaiting 80 = .ok (.ddiv, 1) := by decide +kernel
theorem dX4_meanWaiting_81 : decode cX4_meanWaiting 81 = .ok (.dreturn, 1) := by decide +kernel
theorem dX4_isOutside_0 : decode cX4_isOutside 0 = .ok (.iload_n 0, 1) := by decide +kernel
theorem dX4_isOutside_1 : decode cX4_isOutside 1 = .ok (.iload_n 1, 1) := by decide +kernel
theorem dX4_isOutside_2 : decode cX4_isOutside 2 = .ok (.if_icmp .lt 8, 3) := by decide +kernel
theorem dX4_isOutside_5 : decode cX4_isOutside 5 = .ok (.iload_n 0, 1) := by decide +kernel
theorem dX4_isOutside_6 : decode cX4_isOutside 6 = .ok (.iload_n 2, 1) := by decide +kernel
theorem dX4_isOutside_7 : decode cX4_isOutside 7 = .ok (.if_icmp .le 7, 3) := by decide +kernel
theorem dX4_isOutside_10 : decode cX4_isOutside 10 = .ok (.iconst 1, 1) := by decide +kernel
theorem dX4_isOutside_11 : decode cX4_isOutside 11 = .ok (.goto 4, 3) := by decide +kernel
theorem dX4_isOutside_14 : decode cX4_isOutside 14 = .ok (.iconst 0, 1) := by decide +kernel
theorem dX4_isOutside_15 : decode cX4_isOutside 15 = .ok (.ireturn, 1) := by decide +kernel
theorem dX4_appointmentOrThrow_0 : decode cX4_appointmentOrThrow 0 = .ok (.iload_n 1, 1) := by decide +kernel
theorem dX4_appointmentOrThrow_1 : decode cX4_appointmentOrThrow 1 = .ok (.ifCond .lt 20, 3) := by decide +kernel
theorem dX4_appointmentOrThrow_4 : decode cX4_appointmentOrThrow 4 = .ok (.iload_n 1, 1) := by decide +kernel
theorem dX4_appointmentOrThrow_5 : decode cX4_appointmentOrThrow 5 = .ok (.aload_n 0, 1) := by decide +kernel
theorem dX4_appointmentOrThrow_6 : decode cX4_appointmentOrThrow 6 = .ok (.getfield 86, 3) := by decide +kernel
theorem dX4_appointmentOrThrow_9 : decode cX4_appointmentOrThrow 9 = .ok (.if_icmp .ge 12, 3) := by decide +kernel
theorem dX4_appointmentOrThrow_12 : decode cX4_appointmentOrThrow 12 = .ok (.iload_n 1, 1) := by decide +kernel
theorem dX4_appointmentOrThrow_13 : decode cX4_appointmentOrThrow 13 = .ok (.aload_n 0, 1) := by decide +kernel
theorem dX4_appointmentOrThrow_14 : decode cX4_appointmentOrThrow 14 = .ok (.getfield 24, 3) := by decide +kernel
theorem dX4_appointmentOrThrow_17 : decode cX4_appointmentOrThrow 17 = .ok (.arraylength, 1) := by decide +kernel
theorem dX4_appointmentOrThrow_18 : decode cX4_appointmentOrThrow 18 = .ok (.if_icmp .lt 13, 3) := by decide +kernel
theorem dX4_appointmentOrThrow_21 : decode cX4_appointmentOrThrow 21 = .ok (.new 142, 3) := by decide +kernel
theorem dX4_appointmentOrThrow_24 : decode cX4_appointmentOrThrow 24 = .ok (.dup, 1) := by decide +kernel
theorem dX4_appointmentOrThrow_25 : decode cX4_appointmentOrThrow 25 = .ok (.ldc 243, 2) := by decide +kernel
theorem dX4_appointmentOrThrow_27 : decode cX4_appointmentOrThrow 27 = .ok (.invokespecial 146, 3) := by decide +kernel
theorem dX4_appointmentOrThrow_30 : decode cX4_appointmentOrThrow 30 = .ok (.athrow, 1) := by decide +kernel
theorem dX4_appointmentOrThrow_31 : decode cX4_appointmentOrThrow 31 = .ok (.aload_n 0, 1) := by decide +kernel
theorem dX4_appointmentOrThrow_32 : decode cX4_appointmentOrThrow 32 = .ok (.getfield 24, 3) := by decide +kernel
theorem dX4_appointmentOrThrow_35 : decode cX4_appointmentOrThrow 35 = .ok (.iload_n 1, 1) := by decide +kernel
theorem dX4_appointmentOrThrow_36 : decode cX4_appointmentOrThrow 36 = .ok (.aaload, 1) := by decide +kernel
theorem dX4_appointmentOrThrow_37 : decode cX4_appointmentOrThrow 37 = .ok (.astore_n 2, 1) := by decide +kernel
theorem dX4_appointmentOrThrow_38 : decode cX4_appointmentOrThrow 38 = .ok (.aload_n 2, 1) := by decide +kernel
theorem dX4_appointmentOrThrow_39 : decode cX4_appointmentOrThrow 39 = .ok (.ifnonnull 13, 3) := by decide +kernel
theorem dX4_appointmentOrThrow_42 : decode cX4_appointmentOrThrow 42 = .ok (.new 142, 3) := by decide +kernel
theorem dX4_appointmentOrThrow_45 : decode cX4_appointmentOrThrow 45 = .ok (.dup, 1) := by decide +kernel
theorem dX4_appointmentOrThrow_46 : decode cX4_appointmentOrThrow 46 = .ok (.ldc 243, 2) := by decide +kernel
theorem dX4_appointmentOrThrow_48 : decode cX4_appointmentOrThrow 48 = .ok (.invokespecial 146, 3) := by decide +kernel
theorem dX4_appointmentOrThrow_51 : decode cX4_appointmentOrThrow 51 = .ok (.athrow, 1) := by decide +kernel
theorem dX4_appointmentOrThrow_52 : decode cX4_appointmentOrThrow 52 = .ok (.aload_n 2, 1) := by decide +kernel
theorem dX4_appointmentOrThrow_53 : decode cX4_appointmentOrThrow 53 = .ok (.areturn, 1) := by decide +kernel
set_option maxRecDepth 20000 in
theorem ggX4_arrivedOrThrow_X4_appointmentOrThrow : GoodIn wsX4_arrivedOrThrow wsX4_appointmentOrThrow := goodIn_ca (goodIn_r _ [7, 8, 9, 10, 11, 18, 19, 20, 21, 22, 23, 24, 25, 26, 27, 28, 29, 30] (by decide +kernel) (by decide +kernel)) (goodIn_sub (fun _ h => List.mem_cons_of_mem _ (List.mem_append_right _ h)) (by decide +kernel))
set_option maxRecDepth 20000 in
theorem gX4_arrivedOrThrow_X4_appointmentOrThrow : GoodIn wsX4_arrivedOrThrow (wsV RX4 94 RX4 yX4_appointmentOrThrow wsX4_appointmentOrThrow) := goodIn_app (goodIn_of _ (by decide +kernel)) ggX4_arrivedOrThrow_X4_appointmentOrThrow
set_option maxRecDepth 20000 in
theorem ggX4_arrivedOrThrow_X0_hasArrived : GoodIn wsX4_arrivedOrThrow wsX0_hasArrived := goodIn_r _ [16, 17, 31, 32, 33, 34, 35, 36, 37, 38, 39, 40] (by decide +kernel) (by decide +kernel)
set_option maxRecDepth 20000 in
theorem gX4_arrivedOrThrow_X0_hasArrived : GoodIn wsX4_arrivedOrThrow (wsV RX4 237 RX0 yX0_hasArrived wsX0_hasArrived) := goodIn_app (goodIn_of _ (by decide +kernel)) ggX4_arrivedOrThrow_X0_hasArrived
theorem dX4_arrivedOrThrow_0 : decode cX4_arrivedOrThrow 0 = .ok (.aload_n 0, 1) := by decide +kernel
theorem dX4_arrivedOrThrow_1 : decode cX4_arrivedOrThrow 1 = .ok (.iload_n 1, 1) := by decide +kernel
theorem dX4_arrivedOrThrow_2 : decode cX4_arrivedOrThrow 2 = .ok (.invokevirtual 94, 3) := by decide +kernel
theorem dX4_arrivedOrThrow_5 : decode cX4_arrivedOrThrow 5 = .ok (.astore_n 2, 1) := by decide +kernel
theorem dX4_arrivedOrThrow_6 : decode cX4_arrivedOrThrow 6 = .ok (.aload_n 2, 1) := by decide +kernel
theorem dX4_arrivedOrThrow_7 : decode cX4_arrivedOrThrow 7 = .ok (.invokevirtual 237, 3) := by decide +kernel
theorem dX4_arrivedOrThrow_10 : decode cX4_arrivedOrThrow 10 = .ok (.ifCond .ne 13, 3) := by decide +kernel
theorem dX4_arrivedOrThrow_13 : decode cX4_arrivedOrThrow 13 = .ok (.new 58, 3) := by decide +kernel
theorem dX4_arrivedOrThrow_16 : decode cX4_arrivedOrThrow 16 = .ok (.dup, 1) := by decide +kernel
theorem dX4_arrivedOrThrow_17 : decode cX4_arrivedOrThrow 17 = .ok (.ldc 245, 2) := by decide +kernel
theorem dX4_arrivedOrThrow_19 : decode cX4_arrivedOrThrow 19 = .ok (.invokespecial 62, 3) := by decide +kernel
theorem dX4_arrivedOrThrow_22 : decode cX4_arrivedOrThrow 22 = .ok (.athrow, 1) := by decide +kernel
theorem dX4_arrivedOrThrow_23 : decode cX4_arrivedOrThrow 23 = .ok (.aload_n 2, 1) := by decide +kernel
theorem dX4_arrivedOrThrow_24 : decode cX4_arrivedOrThrow 24 = .ok (.areturn, 1) := by decide +kernel
set_option maxRecDepth 20000 in
theorem ggX4_laneOrThrow_X3_laneAt : GoodIn wsX4_laneOrThrow wsX3_laneAt := goodIn_r _ [8, 9, 10, 24, 25] (by decide +kernel) (by decide +kernel)
set_option maxRecDepth 20000 in
theorem gX4_laneOrThrow_X3_laneAt : GoodIn wsX4_laneOrThrow (wsV RX4 247 RX3 yX3_laneAt wsX3_laneAt) := goodIn_app (goodIn_of _ (by decide +kernel)) ggX4_laneOrThrow_X3_laneAt
theorem dX4_laneOrThrow_0 : decode cX4_laneOrThrow 0 = .ok (.aload_n 0, 1) := by decide +kernel
theorem dX4_laneOrThrow_1 : decode cX4_laneOrThrow 1 = .ok (.getfield 10, 3) := by decide +kernel
theorem dX4_laneOrThrow_4 : decode cX4_laneOrThrow 4 = .ok (.iload_n 1, 1) := by decide +kernel
theorem dX4_laneOrThrow_5 : decode cX4_laneOrThrow 5 = .ok (.invokevirtual 247, 3) := by decide +kernel
theorem dX4_laneOrThrow_8 : decode cX4_laneOrThrow 8 = .ok (.astore_n 2, 1) := by decide +kernel
theorem dX4_laneOrThrow_9 : decode cX4_laneOrThrow 9 = .ok (.aload_n 2, 1) := by decide +kernel
theorem dX4_laneOrThrow_10 : decode cX4_laneOrThrow 10 = .ok (.ifnonnull 13, 3) := by decide +kernel
theorem dX4_laneOrThrow_13 : decode cX4_laneOrThrow 13 = .ok (.new 168, 3) := by decide +kernel
theorem dX4_laneOrThrow_16 : decode cX4_laneOrThrow 16 = .ok (.dup, 1) := by decide +kernel
theorem dX4_laneOrThrow_17 : decode cX4_laneOrThrow 17 = .ok (.ldc 250, 2) := by decide +kernel
theorem dX4_laneOrThrow_19 : decode cX4_laneOrThrow 19 = .ok (.invokespecial 172, 3) := by decide +kernel
theorem dX4_laneOrThrow_22 : decode cX4_laneOrThrow 22 = .ok (.athrow, 1) := by decide +kernel
theorem dX4_laneOrThrow_23 : decode cX4_laneOrThrow 23 = .ok (.aload_n 2, 1) := by decide +kernel
theorem dX4_laneOrThrow_24 : decode cX4_laneOrThrow 24 = .ok (.areturn, 1) := by decide +kernel
theorem dX4_homeOrThrow_0 : decode cX4_homeOrThrow 0 = .ok (.aload_n 0, 1) := by decide +kernel
theorem dX4_homeOrThrow_1 : decode cX4_homeOrThrow 1 = .ok (.getfield 252, 3) := by decide +kernel
theorem dX4_homeOrThrow_4 : decode cX4_homeOrThrow 4 = .ok (.astore_n 1, 1) := by decide +kernel
theorem dX4_homeOrThrow_5 : decode cX4_homeOrThrow 5 = .ok (.aload_n 1, 1) := by decide +kernel
theorem dX4_homeOrThrow_6 : decode cX4_homeOrThrow 6 = .ok (.ifnonnull 14, 3) := by decide +kernel
theorem dX4_homeOrThrow_9 : decode cX4_homeOrThrow 9 = .ok (.new 58, 3) := by decide +kernel
theorem dX4_homeOrThrow_12 : decode cX4_homeOrThrow 12 = .ok (.dup, 1) := by decide +kernel
theorem dX4_homeOrThrow_13 : decode cX4_homeOrThrow 13 = .ok (.ldc_w 256, 3) := by decide +kernel
theorem dX4_homeOrThrow_16 : decode cX4_homeOrThrow 16 = .ok (.invokespecial 62, 3) := by decide +kernel
theorem dX4_homeOrThrow_19 : decode cX4_homeOrThrow 19 = .ok (.athrow, 1) := by decide +kernel
theorem dX4_homeOrThrow_20 : decode cX4_homeOrThrow 20 = .ok (.aload_n 1, 1) := by decide +kernel
theorem dX4_homeOrThrow_21 : decode cX4_homeOrThrow 21 = .ok (.areturn, 1) := by decide +kernel
set_option maxRecDepth 20000 in
theorem ggX4_homeOfReachedOrThrow_X4_homeOrThrow : GoodIn wsX4_homeOfReachedOrThrow wsX4_homeOrThrow := goodIn_ca (goodIn_r _ [6, 1, 2, 7, 15, 16, 17, 18, 19, 20, 21, 22, 23, 24] (by decide +kernel) (by decide +kernel)) (goodIn_sub (fun _ h => List.mem_cons_of_mem _ (List.mem_append_right _ h)) (by decide +kernel))
set_option maxRecDepth 20000 in
theorem gX4_homeOfReachedOrThrow_X4_homeOrThrow : GoodIn wsX4_homeOfReachedOrThrow (va_wsS RX4 202 yX4_homeOrThrow wsX4_homeOrThrow) := goodIn_app (goodIn_of _ (by decide +kernel)) ggX4_homeOfReachedOrThrow_X4_homeOrThrow
set_option maxRecDepth 20000 in
theorem ggX4_homeOfReachedOrThrow_X2_countBefore : GoodIn wsX4_homeOfReachedOrThrow wsX2_countBefore := goodIn_r _ [12, 13, 14, 25, 26, 27, 28, 29, 15, 16, 17, 18, 19, 20, 21, 22, 23, 24] (by decide +kernel) (by decide +kernel)
set_option maxRecDepth 20000 in
theorem gX4_homeOfReachedOrThrow_X2_countBefore : GoodIn wsX4_homeOfReachedOrThrow (wsV RX4 205 RX2 yX2_countBefore wsX2_countBefore) := goodIn_app (goodIn_of _ (by decide +kernel)) ggX4_homeOfReachedOrThrow_X2_countBefore
theorem dX4_homeOfReachedOrThrow_0 : decode cX4_homeOfReachedOrThrow 0 = .ok (.aload_n 0, 1) := by decide +kernel
theorem dX4_homeOfReachedOrThrow_1 : decode cX4_homeOfReachedOrThrow 1 = .ok (.invokestatic 202, 3) := by decide +kernel
theorem dX4_homeOfReachedOrThrow_4 : decode cX4_homeOfReachedOrThrow 4 = .ok (.astore_n 1, 1) := by decide +kernel
theorem dX4_homeOfReachedOrThrow_5 : decode cX4_homeOfReachedOrThrow 5 = .ok (.aload_n 1, 1) := by decide +kernel
theorem dX4_homeOfReachedOrThrow_6 : decode cX4_homeOfReachedOrThrow 6 = .ok (.aload_n 0, 1) := by decide +kernel
theorem dX4_homeOfReachedOrThrow_7 : decode cX4_homeOfReachedOrThrow 7 = .ok (.invokevirtual 205, 3) := by decide +kernel
theorem dX4_homeOfReachedOrThrow_10 : decode cX4_homeOfReachedOrThrow 10 = .ok (.ifCond .eq 14, 3) := by decide +kernel
theorem dX4_homeOfReachedOrThrow_13 : decode cX4_homeOfReachedOrThrow 13 = .ok (.new 58, 3) := by decide +kernel
theorem dX4_homeOfReachedOrThrow_16 : decode cX4_homeOfReachedOrThrow 16 = .ok (.dup, 1) := by decide +kernel
theorem dX4_homeOfReachedOrThrow_17 : decode cX4_homeOfReachedOrThrow 17 = .ok (.ldc_w 258, 3) := by decide +kernel
theorem dX4_homeOfReachedOrThrow_20 : decode cX4_homeOfReachedOrThrow 20 = .ok (.invokespecial 62, 3) := by decide +kernel
theorem dX4_homeOfReachedOrThrow_23 : decode cX4_homeOfReachedOrThrow 23 = .ok (.athrow, 1) := by decide +kernel
theorem dX4_homeOfReachedOrThrow_24 : decode cX4_homeOfReachedOrThrow 24 = .ok (.aload_n 1, 1) := by decide +kernel
theorem dX4_homeOfReachedOrThrow_25 : decode cX4_homeOfReachedOrThrow 25 = .ok (.areturn, 1) := by decide +kernel
theorem dX4_doorAt_0 : decode cX4_doorAt 0 = .ok (.iload_n 1, 1) := by decide +kernel
theorem dX4_doorAt_1 : decode cX4_doorAt 1 = .ok (.ifCond .lt 20, 3) := by decide +kernel
theorem dX4_doorAt_4 : decode cX4_doorAt 4 = .ok (.iload_n 1, 1) := by decide +kernel
theorem dX4_doorAt_5 : decode cX4_doorAt 5 = .ok (.aload_n 0, 1) := by decide +kernel
theorem dX4_doorAt_6 : decode cX4_doorAt 6 = .ok (.getfield 69, 3) := by decide +kernel
theorem dX4_doorAt_9 : decode cX4_doorAt 9 = .ok (.if_icmp .ge 12, 3) := by decide +kernel
theorem dX4_doorAt_12 : decode cX4_doorAt 12 = .ok (.iload_n 1, 1) := by decide +kernel
theorem dX4_doorAt_13 : decode cX4_doorAt 13 = .ok (.aload_n 0, 1) := by decide +kernel
theorem dX4_doorAt_14 : decode cX4_doorAt 14 = .ok (.getfield 18, 3) := by decide +kernel
theorem dX4_doorAt_17 : decode cX4_doorAt 17 = .ok (.arraylength, 1) := by decide +kernel
theorem dX4_doorAt_18 : decode cX4_doorAt 18 = .ok (.if_icmp .lt 5, 3) := by decide +kernel
theorem dX4_doorAt_21 : decode cX4_doorAt 21 = .ok (.aconst_null, 1) := by decide +kernel
theorem dX4_doorAt_22 : decode cX4_doorAt 22 = .ok (.areturn, 1) := by decide +kernel
theorem dX4_doorAt_23 : decode cX4_doorAt 23 = .ok (.aload_n 0, 1) := by decide +kernel
theorem dX4_doorAt_24 : decode cX4_doorAt 24 = .ok (.getfield 18, 3) := by decide +kernel
theorem dX4_doorAt_27 : decode cX4_doorAt 27 = .ok (.iload_n 1, 1) := by decide +kernel
theorem dX4_doorAt_28 : decode cX4_doorAt 28 = .ok (.aaload, 1) := by decide +kernel
theorem dX4_doorAt_29 : decode cX4_doorAt 29 = .ok (.areturn, 1) := by decide +kernel
set_option maxRecDepth 20000 in
theorem ggX4_isReachedWithin_X2_countBefore : GoodIn wsX4_isReachedWithin wsX2_countBefore := goodIn_r _ [6, 7, 8, 51, 52, 53, 54, 55, 56, 57, 58, 59, 60, 61, 62, 63, 64, 65] (by decide +kernel) (by decide +kernel)
set_option maxRecDepth 20000 in
theorem gX4_isReachedWithin_X2_countBefore : GoodIn wsX4_isReachedWithin (wsV RX4 205 RX2 yX2_countBefore wsX2_countBefore) := goodIn_app (goodIn_of _ (by decide +kernel)) ggX4_isReachedWithin_X2_countBefore
set_option maxRecDepth 20000 in
theorem ggX4_isReachedWithin_X3_allowMove : GoodIn wsX4_isReachedWithin wsX3_allowMove := goodIn_r _ [13, 14, 15, 16, 12, 17, 18, 19, 20, 21, 22, 5, 23, 7, 24, 25, 26, 27, 28, 29, 30, 31, 49, 50, 51, 52, 53, 54, 55, 56, 57, 58, 59, 60, 61, 62, 63, 64, 65] (by decide +kernel) (by decide +kernel)
set_option maxRecDepth 20000 in
theorem gX4_isReachedWithin_X3_allowMove : GoodIn wsX4_isReachedWithin (wsV RX4 260 RX3 yX3_allowMove wsX3_allowMove) := goodIn_app (goodIn_of _ (by decide +kernel)) ggX4_isReachedWithin_X3_allowMove
set_option maxRecDepth 20000 in
theorem ggX4_isReachedWithin_X3_moveNearest : GoodIn wsX4_isReachedWithin wsX3_moveNearest := goodIn_r _ [35, 14, 15, 16, 12, 17, 18, 19, 36, 37, 38, 5, 39, 7, 40, 41, 21, 22, 23, 24, 42, 43, 44, 45, 8, 49, 50, 51, 52, 53, 54, 55, 56, 57, 58, 59, 60, 61, 62, 63, 64, 65] (by decide +kernel) (by decide +kernel)
set_option maxRecDepth 20000 in
theorem gX4_isReachedWithin_X3_moveNearest : GoodIn wsX4_isReachedWithin (wsV RX4 264 RX3 yX3_moveNearest wsX3_moveNearest) := goodIn_app (goodIn_of _ (by decide +kernel)) ggX4_isReachedWithin_X3_moveNearest
set_option maxRecDepth 20000 in
theorem ggX4_isReachedWithin_X4_isReachedWithin : GoodIn wsX4_isReachedWithin wsX4_isReachedWithin := goodIn_r _ [0, 1, 2, 3, 4, 5, 6, 7, 8, 9, 10, 11, 12, 13, 14, 15, 16, 17, 18, 19, 20, 21, 22, 23, 24, 25, 26, 27, 28, 29, 30, 31, 32, 33, 34, 35, 36, 37, 38, 39, 40, 41, 42, 43, 44, 45, 46, 47, 48, 49, 50, 51, 52, 53, 54, 55, 56, 57, 58, 59, 60, 61, 62, 63, 64, 65] (by decide +kernel) (by decide +kernel)
set_option maxRecDepth 20000 in
theorem gX4_isReachedWithin_X4_isReachedWithin : GoodIn wsX4_isReachedWithin (va_wsS RX4 213 yX4_isReachedWithin wsX4_isReachedWithin) := goodIn_app (goodIn_of _ (by decide +kernel)) ggX4_isReachedWithin_X4_isReachedWithin
theorem dX4_isReachedWithin_0 : decode cX4_isReachedWithin 0 = .ok (.aload_n 1, 1) := by decide +kernel
theorem dX4_isReachedWithin_1 : decode cX4_isReachedWithin 1 = .ok (.aload_n 2, 1) := by decide +kernel
theorem dX4_isReachedWithin_2 : decode cX4_isReachedWithin 2 = .ok (.invokevirtual 205, 3) := by decide +kernel
theorem dX4_isReachedWithin_5 : decode cX4_isReachedWithin 5 = .ok (.istore 4, 2) := by decide +kernel
theorem dX4_isReachedWithin_7 : decode cX4_isReachedWithin 7 = .ok (.iload 4, 2) := by decide +kernel
theorem dX4_isReachedWithin_9 : decode cX4_isReachedWithin 9 = .ok (.ifCond .ne 5, 3) := by decide +kernel
theorem dX4_isReachedWithin_12 : decode cX4_isReachedWithin 12 = .ok (.iconst 1, 1) := by decide +kernel
theorem dX4_isReachedWithin_13 : decode cX4_isReachedWithin 13 = .ok (.ireturn, 1) := by decide +kernel
theorem dX4_isReachedWithin_14 : decode cX4_isReachedWithin 14 = .ok (.iload_n 3, 1) := by decide +kernel
theorem dX4_isReachedWithin_15 : decode cX4_isReachedWithin 15 = .ok (.ifCond .le 9, 3) := by decide +kernel
theorem dX4_isReachedWithin_18 : decode cX4_isReachedWithin 18 = .ok (.iload 4, 2) := by decide +kernel
theorem dX4_isReachedWithin_20 : decode cX4_isReachedWithin 20 = .ok (.iload_n 3, 1) := by decide +kernel
theorem dX4_isReachedWithin_21 : decode cX4_isReachedWithin 21 = .ok (.if_icmp .le 5, 3) := by decide +kernel
theorem dX4_isReachedWithin_24 : decode cX4_isReachedWithin 24 = .ok (.iconst 0, 1) := by decide +kernel
theorem dX4_isReachedWithin_25 : decode cX4_isReachedWithin 25 = .ok (.ireturn, 1) := by decide +kernel
theorem dX4_isReachedWithin_26 : decode cX4_isReachedWithin 26 = .ok (.iconst 0, 1) := by decide +kernel
theorem dX4_isReachedWithin_27 : decode cX4_isReachedWithin 27 = .ok (.istore 5, 2) := by decide +kernel
theorem dX4_isReachedWithin_29 : decode cX4_isReachedWithin 29 = .ok (.iconst 0, 1) := by decide +kernel
theorem dX4_isReachedWithin_30 : decode cX4_isReachedWithin 30 = .ok (.istore 6, 2) := by decide +kernel
theorem dX4_isReachedWithin_32 : decode cX4_isReachedWithin 32 = .ok (.iload 6, 2) := by decide +kernel
theorem dX4_isReachedWithin_34 : decode cX4_isReachedWithin 34 = .ok (.aload_n 0, 1) := by decide +kernel
theorem dX4_isReachedWithin_35 : decode cX4_isReachedWithin 35 = .ok (.getfield 55, 3) := by decide +kernel
theorem dX4_isReachedWithin_38 : decode cX4_isReachedWithin 38 = .ok (.if_icmp .ge 75, 3) := by decide +kernel
theorem dX4_isReachedWithin_41 : decode cX4_isReachedWithin 41 = .ok (.iload 5, 2) := by decide +kernel
theorem dX4_isReachedWithin_43 : decode cX4_isReachedWithin 43 = .ok (.ifCond .ne 70, 3) := by decide +kernel
theorem dX4_isReachedWithin_46 : decode cX4_isReachedWithin 46 = .ok (.iconst 0, 1) := by decide +kernel
theorem dX4_isReachedWithin_47 : decode cX4_isReachedWithin 47 = .ok (.istore 7, 2) := by decide +kernel
theorem dX4_isReachedWithin_49 : decode cX4_isReachedWithin 49 = .ok (.iload 7, 2) := by decide +kernel
theorem dX4_isReachedWithin_51 : decode cX4_isReachedWithin 51 = .ok (.aload_n 0, 1) := by decide +kernel
theorem dX4_isReachedWithin_52 : decode cX4_isReachedWithin 52 = .ok (.getfield 55, 3) := by decide +kernel
theorem dX4_isReachedWithin_55 : decode cX4_isReachedWithin 55 = .ok (.if_icmp .ge 52, 3) := by decide +kernel
theorem dX4_isReachedWithin_58 : decode cX4_isReachedWithin 58 = .ok (.iload 5, 2) := by decide +kernel
theorem dX4_isReachedWithin_60 : decode cX4_isReachedWithin 60 = .ok (.ifCond .ne 47, 3) := by decide +kernel
theorem dX4_isReachedWithin_63 : decode cX4_isReachedWithin 63 = .ok (.aload_n 0, 1) := by decide +kernel
theorem dX4_isReachedWithin_64 : decode cX4_isReachedWithin 64 = .ok (.iload 6, 2) := by decide +kernel
theorem dX4_isReachedWithin_66 : decode cX4_isReachedWithin 66 = .ok (.iload 7, 2) := by decide +kernel
theorem dX4_isReachedWithin_68 : decode cX4_isReachedWithin 68 = .ok (.invokevirtual 260, 3) := by decide +kernel
theorem dX4_isReachedWithin_71 : decode cX4_isReachedWithin 71 = .ok (.ifCond .eq 30, 3) := by decide +kernel
theorem dX4_isReachedWithin_74 : decode cX4_isReachedWithin 74 = .ok (.aload_n 0, 1) := by decide +kernel
theorem dX4_isReachedWithin_75 : decode cX4_isReachedWithin 75 = .ok (.iload 6, 2) := by decide +kernel
theorem dX4_isReachedWithin_77 : decode cX4_isReachedWithin 77 = .ok (.iload 7, 2) := by decide +kernel
theorem dX4_isReachedWithin_79 : decode cX4_isReachedWithin 79 = .ok (.invokevirtual 264, 3) := by decide +kernel
theorem dX4_isReachedWithin_82 : decode cX4_isReachedWithin 82 = .ok (.aload_n 0, 1) := by decide +kernel
theorem dX4_isReachedWithin_83 : decode cX4_isReachedWithin 83 = .ok (.aload_n 1, 1) := by decide +kernel
theorem dX4_isReachedWithin_84 : decode cX4_isReachedWithin 84 = .ok (.aload_n 2, 1) := by decide +kernel
theorem dX4_isReachedWithin_85 : decode cX4_isReachedWithin 85 = .ok (.iload_n 3, 1) := by decide +kernel
theorem dX4_isReachedWithin_86 : decode cX4_isReachedWithin 86 = .ok (.iconst 1, 1) := by decide +kernel
theorem dX4_isReachedWithin_87 : decode cX4_isReachedWithin 87 = .ok (.isub, 1) := by decide +kernel
theorem dX4_isReachedWithin_88 : decode cX4_isReachedWithin 88 = .ok (.invokestatic 213, 3) := by decide +kernel
theorem dX4_isReachedWithin_91 : decode cX4_isReachedWithin 91 = .ok (.istore 5, 2) := by decide +kernel
theorem dX4_isReachedWithin_93 : decode cX4_isReachedWithin 93 = .ok (.aload_n 0, 1) := by decide +kernel
theorem dX4_isReachedWithin_94 : decode cX4_isReachedWithin 94 = .ok (.iload 7, 2) := by decide +kernel
theorem dX4_isReachedWithin_96 : decode cX4_isReachedWithin 96 = .ok (.iload 6, 2) := by decide +kernel
theorem dX4_isReachedWithin_98 : decode cX4_isReachedWithin 98 = .ok (.invokevirtual 264, 3) := by decide +kernel
theorem dX4_isReachedWithin_101 : decode cX4_isReachedWithin 101 = .ok (.iinc 7 1, 3) := by decide +kernel
theorem dX4_isReachedWithin_104 : decode cX4_isReachedWithin 104 = .ok (.goto (-55), 3) := by decide +kernel
theorem dX4_isReachedWithin_107 : decode cX4_isReachedWithin 107 = .ok (.iinc 6 1, 3) := by decide +kernel
theorem dX4_isReachedWithin_110 : decode cX4_isReachedWithin 110 = .ok (.goto (-78), 3) := by decide +kernel
theorem dX4_isReachedWithin_113 : decode cX4_isReachedWithin 113 = .ok (.iload 5, 2) := by decide +kernel
theorem dX4_isReachedWithin_115 : decode cX4_isReachedWithin 115 = .ok (.ireturn, 1) := by decide +kernel
set_option maxRecDepth 20000 in
theorem ggX4_bestOfOrders_X2_countBefore : GoodIn wsX4_bestOfOrders wsX2_countBefore := goodIn_r _ [10, 11, 12, 55, 56, 57, 58, 59, 60, 61, 62, 63, 64, 65, 66, 67, 68, 69] (by decide +kernel) (by decide +kernel)
set_option maxRecDepth 20000 in
theorem gX4_bestOfOrders_X2_countBefore : GoodIn wsX4_bestOfOrders (wsV RX4 205 RX2 yX2_countBefore wsX2_countBefore) := goodIn_app (goodIn_of _ (by decide +kernel)) ggX4_bestOfOrders_X2_countBefore
set_option maxRecDepth 20000 in
theorem ggX4_bestOfOrders_X3_allowMove : GoodIn wsX4_bestOfOrders wsX3_allowMove := goodIn_r _ [17, 18, 19, 20, 16, 21, 22, 23, 24, 25, 26, 9, 27, 11, 28, 29, 30, 31, 32, 33, 34, 35, 53, 54, 55, 56, 57, 58, 59, 60, 61, 62, 63, 64, 65, 66, 67, 68, 69] (by decide +kernel) (by decide +kernel)
set_option maxRecDepth 20000 in
theorem gX4_bestOfOrders_X3_allowMove : GoodIn wsX4_bestOfOrders (wsV RX4 260 RX3 yX3_allowMove wsX3_allowMove) := goodIn_app (goodIn_of _ (by decide +kernel)) ggX4_bestOfOrders_X3_allowMove
set_option maxRecDepth 20000 in
theorem ggX4_bestOfOrders_X3_moveNearest : GoodIn wsX4_bestOfOrders wsX3_moveNearest := goodIn_r _ [39, 18, 19, 20, 16, 21, 22, 23, 40, 41, 42, 9, 43, 11, 44, 45, 25, 26, 27, 28, 46, 47, 48, 49, 12, 53, 54, 55, 56, 57, 58, 59, 60, 61, 62, 63, 64, 65, 66, 67, 68, 69] (by decide +kernel) (by decide +kernel)
set_option maxRecDepth 20000 in
theorem gX4_bestOfOrders_X3_moveNearest : GoodIn wsX4_bestOfOrders (wsV RX4 264 RX3 yX3_moveNearest wsX3_moveNearest) := goodIn_app (goodIn_of _ (by decide +kernel)) ggX4_bestOfOrders_X3_moveNearest
set_option maxRecDepth 20000 in
theorem ggX4_bestOfOrders_X4_bestOfOrders : GoodIn wsX4_bestOfOrders wsX4_bestOfOrders := goodIn_r _ [0, 1, 2, 3, 4, 5, 6, 7, 8, 9, 10, 11, 12, 13, 14, 15, 16, 17, 18, 19, 20, 21, 22, 23, 24, 25, 26, 27, 28, 29, 30, 31, 32, 33, 34, 35, 36, 37, 38, 39, 40, 41, 42, 43, 44, 45, 46, 47, 48, 49, 50, 51, 52, 53, 54, 55, 56, 57, 58, 59, 60, 61, 62, 63, 64, 65, 66, 67, 68, 69] (by decide +kernel) (by decide +kernel)
set_option maxRecDepth 20000 in
theorem gX4_bestOfOrders_X4_bestOfOrders : GoodIn wsX4_bestOfOrders (va_wsS RX4 219 yX4_bestOfOrders wsX4_bestOfOrders) := goodIn_app (goodIn_of _ (by decide +kernel)) ggX4_bestOfOrders_X4_bestOfOrders
theorem dX4_bestOfOrders_0 : decode cX4_bestOfOrders 0 = .ok (.aload_n 1, 1) := by decide +kernel
theorem dX4_bestOfOrders_1 : decode cX4_bestOfOrders 1 = .ok (.aload_n 2, 1) := by decide +kernel
theorem dX4_bestOfOrders_2 : decode cX4_bestOfOrders 2 = .ok (.invokevirtual 205, 3) := by decide +kernel
theorem dX4_bestOfOrders_5 : decode cX4_bestOfOrders 5 = .ok (.ifCond .ne 10, 3) := by decide +kernel
theorem dX4_bestOfOrders_8 : decode cX4_bestOfOrders 8 = .ok (.iload_n 3, 1) := by decide +kernel
theorem dX4_bestOfOrders_9 : decode cX4_bestOfOrders 9 = .ok (.iload 4, 2) := by decide +kernel
theorem dX4_bestOfOrders_11 : decode cX4_bestOfOrders 11 = .ok (.invokestatic 268, 3) := by decide +kernel
theorem dX4_bestOfOrders_14 : decode cX4_bestOfOrders 14 = .ok (.ireturn, 1) := by decide +kernel
theorem dX4_bestOfOrders_15 : decode cX4_bestOfOrders 15 = .ok (.iload_n 3, 1) := by decide +kernel
theorem dX4_bestOfOrders_16 : decode cX4_bestOfOrders 16 = .ok (.iconst 4, 1) := by decide +kernel
theorem dX4_bestOfOrders_17 : decode cX4_bestOfOrders 17 = .ok (.if_icmp .ge 11, 3) := by decide +kernel
theorem dX4_bestOfOrders_20 : decode cX4_bestOfOrders 20 = .ok (.iload_n 3, 1) := by decide +kernel
theorem dX4_bestOfOrders_21 : decode cX4_bestOfOrders 21 = .ok (.iconst 1, 1) := by decide +kernel
theorem dX4_bestOfOrders_22 : decode cX4_bestOfOrders 22 = .ok (.iadd, 1) := by decide +kernel
theorem dX4_bestOfOrders_23 : decode cX4_bestOfOrders 23 = .ok (.iload 4, 2) := by decide +kernel
theorem dX4_bestOfOrders_25 : decode cX4_bestOfOrders 25 = .ok (.if_icmp .lt 6, 3) := by decide +kernel
theorem dX4_bestOfOrders_28 : decode cX4_bestOfOrders 28 = .ok (.iload 4, 2) := by decide +kernel
theorem dX4_bestOfOrders_30 : decode cX4_bestOfOrders 30 = .ok (.ireturn, 1) := by decide +kernel
theorem dX4_bestOfOrders_31 : decode cX4_bestOfOrders 31 = .ok (.iload 4, 2) := by decide +kernel
theorem dX4_bestOfOrders_33 : decode cX4_bestOfOrders 33 = .ok (.istore 5, 2) := by decide +kernel
theorem dX4_bestOfOrders_35 : decode cX4_bestOfOrders 35 = .ok (.iconst 0, 1) := by decide +kernel
theorem dX4_bestOfOrders_36 : decode cX4_bestOfOrders 36 = .ok (.istore 6, 2) := by decide +kernel
theorem dX4_bestOfOrders_38 : decode cX4_bestOfOrders 38 = .ok (.iload 6, 2) := by decide +kernel
theorem dX4_bestOfOrders_40 : decode cX4_bestOfOrders 40 = .ok (.aload_n 0, 1) := by decide +kernel
theorem dX4_bestOfOrders_41 : decode cX4_bestOfOrders 41 = .ok (.getfield 55, 3) := by decide +kernel
theorem dX4_bestOfOrders_44 : decode cX4_bestOfOrders 44 = .ok (.if_icmp .ge 67, 3) := by decide +kernel
theorem dX4_bestOfOrders_47 : decode cX4_bestOfOrders 47 = .ok (.iconst 0, 1) := by decide +kernel
theorem dX4_bestOfOrders_48 : decode cX4_bestOfOrders 48 = .ok (.istore 7, 2) := by decide +kernel
theorem dX4_bestOfOrders_50 : decode cX4_bestOfOrders 50 = .ok (.iload 7, 2) := by decide +kernel
theorem dX4_bestOfOrders_52 : decode cX4_bestOfOrders 52 = .ok (.aload_n 0, 1) := by decide +kernel
theorem dX4_bestOfOrders_53 : decode cX4_bestOfOrders 53 = .ok (.getfield 55, 3) := by decide +kernel
theorem dX4_bestOfOrders_56 : decode cX4_bestOfOrders 56 = .ok (.if_icmp .ge 49, 3) := by decide +kernel
theorem dX4_bestOfOrders_59 : decode cX4_bestOfOrders 59 = .ok (.aload_n 0, 1) := by decide +kernel
theorem dX4_bestOfOrders_60 : decode cX4_bestOfOrders 60 = .ok (.iload 6, 2) := by decide +kernel
theorem dX4_bestOfOrders_62 : decode cX4_bestOfOrders 62 = .ok (.iload 7, 2) := by decide +kernel
theorem dX4_bestOfOrders_64 : decode cX4_bestOfOrders 64 = .ok (.invokevirtual 260, 3) := by decide +kernel
theorem dX4_bestOfOrders_67 : decode cX4_bestOfOrders 67 = .ok (.ifCond .eq 32, 3) := by decide +kernel
theorem dX4_bestOfOrders_70 : decode cX4_bestOfOrders 70 = .ok (.aload_n 0, 1) := by decide +kernel
theorem dX4_bestOfOrders_71 : decode cX4_bestOfOrders 71 = .ok (.iload 6, 2) := by decide +kernel
theorem dX4_bestOfOrders_73 : decode cX4_bestOfOrders 73 = .ok (.iload 7, 2) := by decide +kernel
theorem dX4_bestOfOrders_75 : decode cX4_bestOfOrders 75 = .ok (.invokevirtual 264, 3) := by decide +kernel
theorem dX4_bestOfOrders_78 : decode cX4_bestOfOrders 78 = .ok (.aload_n 0, 1) := by decide +kernel
theorem dX4_bestOfOrders_79 : decode cX4_bestOfOrders 79 = .ok (.aload_n 1, 1) := by decide +kernel
theorem dX4_bestOfOrders_80 : decode cX4_bestOfOrders 80 = .ok (.aload_n 2, 1) := by decide +kernel
theorem dX4_bestOfOrders_81 : decode cX4_bestOfOrders 81 = .ok (.iload_n 3, 1) := by decide +kernel
theorem dX4_bestOfOrders_82 : decode cX4_bestOfOrders 82 = .ok (.iconst 1, 1) := by decide +kernel
theorem dX4_bestOfOrders_83 : decode cX4_bestOfOrders 83 = .ok (.iadd, 1) := by decide +kernel
theorem dX4_bestOfOrders_84 : decode cX4_bestOfOrders 84 = .ok (.iload 5, 2) := by decide +kernel
theorem dX4_bestOfOrders_86 : decode cX4_bestOfOrders 86 = .ok (.invokestatic 219, 3) := by decide +kernel
theorem dX4_bestOfOrders_89 : decode cX4_bestOfOrders 89 = .ok (.istore 5, 2) := by decide +kernel
theorem dX4_bestOfOrders_91 : decode cX4_bestOfOrders 91 = .ok (.aload_n 0, 1) := by decide +kernel
theorem dX4_bestOfOrders_92 : decode cX4_bestOfOrders 92 = .ok (.iload 7, 2) := by decide +kernel
theorem dX4_bestOfOrders_94 : decode cX4_bestOfOrders 94 = .ok (.iload 6, 2) := by decide +kernel
theorem dX4_bestOfOrders_96 : decode cX4_bestOfOrders 96 = .ok (.invokevirtual 264, 3) := by decide +kernel
theorem dX4_bestOfOrders_99 : decode cX4_bestOfOrders 99 = .ok (.iinc 7 1, 3) := by decide +kernel
theorem dX4_bestOfOrders_102 : decode cX4_bestOfOrders 102 = .ok (.goto (-52), 3) := by decide +kernel
theorem dX4_bestOfOrders_105 : decode cX4_bestOfOrders 105 = .ok (.iinc 6 1, 3) := by decide +kernel
theorem dX4_bestOfOrders_108 : decode cX4_bestOfOrders 108 = .ok (.goto (-70), 3) := by decide +kernel
theorem dX4_bestOfOrders_111 : decode cX4_bestOfOrders 111 = .ok (.iload 5, 2) := by decide +kernel
theorem dX4_bestOfOrders_113 : decode cX4_bestOfOrders 113 = .ok (.ireturn, 1) := by decide +kernel
theorem dX4_punctualityOf_0 : decode cX4_punctualityOf 0 = .ok (.aload_n 1, 1) := by decide +kernel
theorem dX4_punctualityOf_1 : decode cX4_punctualityOf 1 = .ok (.getfield 129, 3) := by decide +kernel
theorem dX4_punctualityOf_4 : decode cX4_punctualityOf 4 = .ok (.aload_n 1, 1) := by decide +kernel
theorem dX4_punctualityOf_5 : decode cX4_punctualityOf 5 = .ok (.getfield 139, 3) := by decide +kernel
theorem dX4_punctualityOf_8 : decode cX4_punctualityOf 8 = .ok (.isub, 1) := by decide +kernel
theorem dX4_punctualityOf_9 : decode cX4_punctualityOf 9 = .ok (.istore_n 2, 1) := by decide +kernel
theorem dX4_punctualityOf_10 : decode cX4_punctualityOf 10 = .ok (.iload_n 2, 1) := by decide +kernel
theorem dX4_punctualityOf_11 : decode cX4_punctualityOf 11 = .ok (.aload_n 0, 1) := by decide +kernel
theorem dX4_punctualityOf_12 : decode cX4_punctualityOf 12 = .ok (.getfield 28, 3) := by decide +kernel
theorem dX4_punctualityOf_15 : decode cX4_punctualityOf 15 = .ok (.if_icmp .le 6, 3) := by decide +kernel
theorem dX4_punctualityOf_18 : decode cX4_punctualityOf 18 = .ok (.bipush 108, 2) := by decide +kernel
theorem dX4_punctualityOf_20 : decode cX4_punctualityOf 20 = .ok (.ireturn, 1) := by decide +kernel
theorem dX4_punctualityOf_21 : decode cX4_punctualityOf 21 = .ok (.iload_n 2, 1) := by decide +kernel
theorem dX4_punctualityOf_22 : decode cX4_punctualityOf 22 = .ok (.ineg, 1) := by decide +kernel
theorem dX4_punctualityOf_23 : decode cX4_punctualityOf 23 = .ok (.aload_n 0, 1) := by decide +kernel
theorem dX4_punctualityOf_24 : decode cX4_punctualityOf 24 = .ok (.getfield 28, 3) := by decide +kernel
theorem dX4_punctualityOf_27 : decode cX4_punctualityOf 27 = .ok (.if_icmp .le 8, 3) := by decide +kernel
theorem dX4_punctualityOf_30 : decode cX4_punctualityOf 30 = .ok (.bipush 101, 2) := by decide +kernel
theorem dX4_punctualityOf_32 : decode cX4_punctualityOf 32 = .ok (.goto 5, 3) := by decide +kernel
theorem dX4_punctualityOf_35 : decode cX4_punctualityOf 35 = .ok (.bipush 111, 2) := by decide +kernel
theorem dX4_punctualityOf_37 : decode cX4_punctualityOf 37 = .ok (.ireturn, 1) := by decide +kernel
theorem dX4_waitingHours_0 : decode cX4_waitingHours 0 = .ok (.aload_n 1, 1) := by decide +kernel
theorem dX4_waitingHours_1 : decode cX4_waitingHours 1 = .ok (.getfield 129, 3) := by decide +kernel
theorem dX4_waitingHours_4 : decode cX4_waitingHours 4 = .ok (.aload_n 1, 1) := by decide +kernel
theorem dX4_waitingHours_5 : decode cX4_waitingHours 5 = .ok (.getfield 139, 3) := by decide +kernel
theorem dX4_waitingHours_8 : decode cX4_waitingHours 8 = .ok (.invokestatic 274, 3) := by decide +kernel
theorem dX4_waitingHours_11 : decode cX4_waitingHours 11 = .ok (.istore_n 2, 1) := by decide +kernel
theorem dX4_waitingHours_12 : decode cX4_waitingHours 12 = .ok (.aload_n 1, 1) := by decide +kernel
theorem dX4_waitingHours_13 : decode cX4_waitingHours 13 = .ok (.getfield 102, 3) := by decide +kernel
theorem dX4_waitingHours_16 : decode cX4_waitingHours 16 = .ok (.bipush 121, 2) := by decide +kernel
theorem dX4_waitingHours_18 : decode cX4_waitingHours 18 = .ok (.if_icmp .ne 10, 3) := by decide +kernel
theorem dX4_waitingHours_21 : decode cX4_waitingHours 21 = .ok (.aload_n 0, 1) := by decide +kernel
theorem dX4_waitingHours_22 : decode cX4_waitingHours 22 = .ok (.getfield 81, 3) := by decide +kernel
theorem dX4_waitingHours_25 : decode cX4_waitingHours 25 = .ok (.goto 7, 3) := by decide +kernel
theorem dX4_waitingHours_28 : decode cX4_waitingHours 28 = .ok (.aload_n 1, 1) := by decide +kernel
theorem dX4_waitingHours_29 : decode cX4_waitingHours 29 = .ok (.getfield 184, 3) := by decide +kernel
theorem dX4_waitingHours_32 : decode cX4_waitingHours 32 = .ok (.istore_n 3, 1) := by decide +kernel
theorem dX4_waitingHours_33 : decode cX4_waitingHours 33 = .ok (.iconst 0, 1) := by decide +kernel
theorem dX4_waitingHours_34 : decode cX4_waitingHours 34 = .ok (.iload_n 3, 1) := by decide +kernel
theorem dX4_waitingHours_35 : decode cX4_waitingHours 35 = .ok (.iload_n 2, 1) := by decide +kernel
theorem dX4_waitingHours_36 : decode cX4_waitingHours 36 = .ok (.isub, 1) := by decide +kernel
theorem dX4_waitingHours_37 : decode cX4_waitingHours 37 = .ok (.invokestatic 274, 3) := by decide +kernel
theorem dX4_waitingHours_40 : decode cX4_waitingHours 40 = .ok (.ireturn, 1) := by decide +kernel
set_option maxRecDepth 20000 in
theorem ggX4_chargeInSteps_X4_punctualityOf : GoodIn wsX4_chargeInSteps wsX4_punctualityOf := goodIn_r _ [16, 17, 18, 19, 40, 41, 42, 43, 44, 45, 46, 47, 48, 49, 27, 28, 29, 30, 31, 32, 33, 34, 35, 36, 37, 38, 39] (by decide +kernel) (by decide +kernel)
set_option maxRecDepth 20000 in
theorem gX4_chargeInSteps_X4_punctualityOf : GoodIn wsX4_chargeInSteps (wsV RX4 132 RX4 yX4_punctualityOf wsX4_punctualityOf) := goodIn_app (goodIn_of _ (by decide +kernel)) ggX4_chargeInSteps_X4_punctualityOf
set_option maxRecDepth 20000 in
theorem ggX4_chargeInSteps_X4_waitingHours : GoodIn wsX4_chargeInSteps wsX4_waitingHours := goodIn_r _ [23, 17, 18, 2, 3, 4, 5, 24, 25, 26, 40, 41, 42, 43, 44, 45, 46, 47, 48, 49, 27, 28, 29, 30, 31, 32, 33, 34, 35, 36, 37, 38, 39] (by decide +kernel) (by decide +kernel)
set_option maxRecDepth 20000 in
theorem gX4_chargeInSteps_X4_waitingHours : GoodIn wsX4_chargeInSteps (wsV RX4 225 RX4 yX4_waitingHours wsX4_waitingHours) := goodIn_app (goodIn_of _ (by decide +kernel)) ggX4_chargeInSteps_X4_waitingHours
theorem dX4_chargeInSteps_0 : decode cX4_chargeInSteps 0 = .ok (.aload_n 0, 1) := by decide +kernel
theorem dX4_chargeInSteps_1 : decode cX4_chargeInSteps 1 = .ok (.aload_n 1, 1) := by decide +kernel
theorem dX4_chargeInSteps_2 : decode cX4_chargeInSteps 2 = .ok (.invokevirtual 132, 3) := by decide +kernel
theorem dX4_chargeInSteps_5 : decode cX4_chargeInSteps 5 = .ok (.bipush 108, 2) := by decide +kernel
theorem dX4_chargeInSteps_7 : decode cX4_chargeInSteps 7 = .ok (.if_icmp .ne 5, 3) := by decide +kernel
theorem dX4_chargeInSteps_10 : decode cX4_chargeInSteps 10 = .ok (.iconst 0, 1) := by decide +kernel
theorem dX4_chargeInSteps_11 : decode cX4_chargeInSteps 11 = .ok (.ireturn, 1) := by decide +kernel
theorem dX4_chargeInSteps_12 : decode cX4_chargeInSteps 12 = .ok (.iconst 0, 1) := by decide +kernel
theorem dX4_chargeInSteps_13 : decode cX4_chargeInSteps 13 = .ok (.aload_n 0, 1) := by decide +kernel
theorem dX4_chargeInSteps_14 : decode cX4_chargeInSteps 14 = .ok (.aload_n 1, 1) := by decide +kernel
theorem dX4_chargeInSteps_15 : decode cX4_chargeInSteps 15 = .ok (.invokevirtual 225, 3) := by decide +kernel
theorem dX4_chargeInSteps_18 : decode cX4_chargeInSteps 18 = .ok (.aload_n 0, 1) := by decide +kernel
theorem dX4_chargeInSteps_19 : decode cX4_chargeInSteps 19 = .ok (.getfield 32, 3) := by decide +kernel
theorem dX4_chargeInSteps_22 : decode cX4_chargeInSteps 22 = .ok (.isub, 1) := by decide +kernel
theorem dX4_chargeInSteps_23 : decode cX4_chargeInSteps 23 = .ok (.invokestatic 274, 3) := by decide +kernel
theorem dX4_chargeInSteps_26 : decode cX4_chargeInSteps 26 = .ok (.istore_n 2, 1) := by decide +kernel
theorem dX4_chargeInSteps_27 : decode cX4_chargeInSteps 27 = .ok (.iload_n 2, 1) := by decide +kernel
theorem dX4_chargeInSteps_28 : decode cX4_chargeInSteps 28 = .ok (.aload_n 0, 1) := by decide +kernel
theorem dX4_chargeInSteps_29 : decode cX4_chargeInSteps 29 = .ok (.getfield 38, 3) := by decide +kernel
theorem dX4_chargeInSteps_32 : decode cX4_chargeInSteps 32 = .ok (.invokestatic 268, 3) := by decide +kernel
theorem dX4_chargeInSteps_35 : decode cX4_chargeInSteps 35 = .ok (.istore_n 3, 1) := by decide +kernel
theorem dX4_chargeInSteps_36 : decode cX4_chargeInSteps 36 = .ok (.iload_n 3, 1) := by decide +kernel
theorem dX4_chargeInSteps_37 : decode cX4_chargeInSteps 37 = .ok (.aload_n 0, 1) := by decide +kernel
theorem dX4_chargeInSteps_38 : decode cX4_chargeInSteps 38 = .ok (.getfield 35, 3) := by decide +kernel
theorem dX4_chargeInSteps_41 : decode cX4_chargeInSteps 41 = .ok (.imul, 1) := by decide +kernel
theorem dX4_chargeInSteps_42 : decode cX4_chargeInSteps 42 = .ok (.iload_n 2, 1) := by decide +kernel
theorem dX4_chargeInSteps_43 : decode cX4_chargeInSteps 43 = .ok (.iload_n 3, 1) := by decide +kernel
theorem dX4_chargeInSteps_44 : decode cX4_chargeInSteps 44 = .ok (.isub, 1) := by decide +kernel
theorem dX4_chargeInSteps_45 : decode cX4_chargeInSteps 45 = .ok (.aload_n 0, 1) := by decide +kernel
theorem dX4_chargeInSteps_46 : decode cX4_chargeInSteps 46 = .ok (.getfield 41, 3) := by decide +kernel
theorem dX4_chargeInSteps_49 : decode cX4_chargeInSteps 49 = .ok (.imul, 1) := by decide +kernel
theorem dX4_chargeInSteps_50 : decode cX4_chargeInSteps 50 = .ok (.iadd, 1) := by decide +kernel
theorem dX4_chargeInSteps_51 : decode cX4_chargeInSteps 51 = .ok (.ireturn, 1) := by decide +kernel
theorem dX4_rateOfHour_0 : decode cX4_rateOfHour 0 = .ok (.iload_n 1, 1) := by decide +kernel
theorem dX4_rateOfHour_1 : decode cX4_rateOfHour 1 = .ok (.aload_n 0, 1) := by decide +kernel
theorem dX4_rateOfHour_2 : decode cX4_rateOfHour 2 = .ok (.getfield 32, 3) := by decide +kernel
theorem dX4_rateOfHour_5 : decode cX4_rateOfHour 5 = .ok (.if_icmp .ge 5, 3) := by decide +kernel
theorem dX4_rateOfHour_8 : decode cX4_rateOfHour 8 = .ok (.iconst 0, 1) := by decide +kernel
theorem dX4_rateOfHour_9 : decode cX4_rateOfHour 9 = .ok (.ireturn, 1) := by decide +kernel
theorem dX4_rateOfHour_10 : decode cX4_rateOfHour 10 = .ok (.iload_n 1, 1) := by decide +kernel
theorem dX4_rateOfHour_11 : decode cX4_rateOfHour 11 = .ok (.aload_n 0, 1) := by decide +kernel
theorem dX4_rateOfHour_12 : decode cX4_rateOfHour 12 = .ok (.getfield 32, 3) := by decide +kernel
theorem dX4_rateOfHour_15 : decode cX4_rateOfHour 15 = .ok (.aload_n 0, 1) := by decide +kernel
theorem dX4_rateOfHour_16 : decode cX4_rateOfHour 16 = .ok (.getfield 38, 3) := by decide +kernel
theorem dX4_rateOfHour_19 : decode cX4_rateOfHour 19 = .ok (.iadd, 1) := by decide +kernel
theorem dX4_rateOfHour_20 : decode cX4_rateOfHour 20 = .ok (.if_icmp .ge 10, 3) := by decide +kernel
theorem dX4_rateOfHour_23 : decode cX4_rateOfHour 23 = .ok (.aload_n 0, 1) := by decide +kernel
theorem dX4_rateOfHour_24 : decode cX4_rateOfHour 24 = .ok (.getfield 35, 3) := by decide +kernel
theorem dX4_rateOfHour_27 : decode cX4_rateOfHour 27 = .ok (.goto 7, 3) := by decide +kernel
theorem dX4_rateOfHour_30 : decode cX4_rateOfHour 30 = .ok (.aload_n 0, 1) := by decide +kernel
theorem dX4_rateOfHour_31 : decode cX4_rateOfHour 31 = .ok (.getfield 41, 3) := by decide +kernel
theorem dX4_rateOfHour_34 : decode cX4_rateOfHour 34 = .ok (.ireturn, 1) := by decide +kernel
end
section
theorem dX5_init_0 : decode cX5_init 0 = .ok (.aload_n 0, 1) := by decide +kernel
theorem dX5_init_1 : decode cX5_init 1 = .ok (.invokespecial 1, 3) := by decide +kernel
theorem dX5_init_4 : decode cX5_init 4 = .ok (.aload_n 0, 1) := by decide +kernel
theorem dX5_init_5 : decode cX5_init 5 = .ok (.iconst 4, 1) := by decide +kernel
theorem dX5_init_6 : decode cX5_init 6 = .ok (.newarray .int, 2) := by decide +kernel
theorem dX5_init_8 : decode cX5_init 8 = .ok (.putfield 7, 3) := by decide +kernel
theorem dX5_init_11 : decode cX5_init 11 = .ok (.aload_n 0, 1) := by decide +kernel
theorem dX5_init_12 : decode cX5_init 12 = .ok (.iconst 4, 1) := by decide +kernel
theorem dX5_init_13 : decode cX5_init 13 = .ok (.newarray .boolean, 2) := by decide +kernel
theorem dX5_init_15 : decode cX5_init 15 = .ok (.putfield 13, 3) := by decide +kernel
theorem dX5_init_18 : decode cX5_init 18 = .ok (.aload_n 0, 1) := by decide +kernel
theorem dX5_init_19 : decode cX5_init 19 = .ok (.iconst 4, 1) := by decide +kernel
theorem dX5_init_20 : decode cX5_init 20 = .ok (.newarray .int, 2) := by decide +kernel
theorem dX5_init_22 : decode cX5_init 22 = .ok (.putfield 17, 3) := by decide +kernel
theorem dX5_init_25 : decode cX5_init 25 = .ok (.aload_n 0, 1) := by decide +kernel
theorem dX5_init_26 : decode cX5_init 26 = .ok (.bipush 12, 2) := by decide +kernel
theorem dX5_init_28 : decode cX5_init 28 = .ok (.newarray .int, 2) := by decide +kernel
theorem dX5_init_30 : decode cX5_init 30 = .ok (.putfield 20, 3) := by decide +kernel
theorem dX5_init_33 : decode cX5_init 33 = .ok (.aload_n 0, 1) := by decide +kernel
theorem dX5_init_34 : decode cX5_init 34 = .ok (.iconst 4, 1) := by decide +kernel
theorem dX5_init_35 : decode cX5_init 35 = .ok (.newarray .char, 2) := by decide +kernel
theorem dX5_init_37 : decode cX5_init 37 = .ok (.putfield 23, 3) := by decide +kernel
theorem dX5_init_40 : decode cX5_init 40 = .ok (.aload_n 0, 1) := by decide +kernel
theorem dX5_init_41 : decode cX5_init 41 = .ok (.iconst 4, 1) := by decide +kernel
theorem dX5_init_42 : decode cX5_init 42 = .ok (.newarray .int, 2) := by decide +kernel
theorem dX5_init_44 : decode cX5_init 44 = .ok (.putfield 27, 3) := by decide +kernel
theorem dX5_init_47 : decode cX5_init 47 = .ok (.aload_n 0, 1) := by decide +kernel
theorem dX5_init_48 : decode cX5_init 48 = .ok (.bipush 40, 2) := by decide +kernel
theorem dX5_init_50 : decode cX5_init 50 = .ok (.newarray .int, 2) := by decide +kernel
theorem dX5_init_52 : decode cX5_init 52 = .ok (.putfield 30, 3) := by decide +kernel
theorem dX5_init_55 : decode cX5_init 55 = .ok (.aload_n 0, 1) := by decide +kernel
theorem dX5_init_56 : decode cX5_init 56 = .ok (.bipush 40, 2) := by decide +kernel
theorem dX5_init_58 : decode cX5_init 58 = .ok (.newarray .char, 2) := by decide +kernel
theorem dX5_init_60 : decode cX5_init 60 = .ok (.putfield 33, 3) := by decide +kernel
theorem dX5_init_63 : decode cX5_init 63 = .ok (.aload_n 0, 1) := by decide +kernel
theorem dX5_init_64 : decode cX5_init 64 = .ok (.bipush 40, 2) := by decide +kernel
theorem dX5_init_66 : decode cX5_init 66 = .ok (.newarray .int, 2) := by decide +kernel
theorem dX5_init_68 : decode cX5_init 68 = .ok (.putfield 36, 3) := by decide +kernel
theorem dX5_init_71 : decode cX5_init 71 = .ok (.aload_n 0, 1) := by decide +kernel
theorem dX5_init_72 : decode cX5_init 72 = .ok (.bipush 40, 2) := by decide +kernel
theorem dX5_init_74 : decode cX5_init 74 = .ok (.newarray .char, 2) := by decide +kernel
theorem dX5_init_76 : decode cX5_init 76 = .ok (.putfield 39, 3) := by decide +kernel
theorem dX5_init_79 : decode cX5_init 79 = .ok (.aload_n 0, 1) := by decide +kernel
theorem dX5_init_80 : decode cX5_init 80 = .ok (.bipush 40, 2) := by decide +kernel
theorem dX5_init_82 : decode cX5_init 82 = .ok (.newarray .int, 2) := by decide +kernel
theorem dX5_init_84 : decode cX5_init 84 = .ok (.putfield 42, 3) := by decide +kernel
theorem dX5_init_87 : decode cX5_init 87 = .ok (.aload_n 0, 1) := by decide +kernel
theorem dX5_init_88 : decode cX5_init 88 = .ok (.bipush 40, 2) := by decide +kernel
theorem dX5_init_90 : decode cX5_init 90 = .ok (.newarray .int, 2) := by decide +kernel
theorem dX5_init_92 : decode cX5_init 92 = .ok (.putfield 45, 3) := by decide +kernel
theorem dX5_init_95 : decode cX5_init 95 = .ok (.aload_n 0, 1) := by decide +kernel
theorem dX5_init_96 : decode cX5_init 96 = .ok (.bipush 40, 2) := by decide +kernel
theorem dX5_init_98 : decode cX5_init 98 = .ok (.newarray .int, 2) := by decide +kernel
theorem dX5_init_100 : decode cX5_init 100 = .ok (.putfield 48, 3) := by decide +kernel
theorem dX5_init_103 : decode cX5_init 103 = .ok (.aload_n 0, 1) := by decide +kernel
theorem dX5_init_104 : decode cX5_init 104 = .ok (.iconst 1, 1) := by decide +kernel
theorem dX5_init_105 : decode cX5_init 105 = .ok (.putfield 51, 3) := by decide +kernel
theorem dX5_init_108 : decode cX5_init 108 = .ok (.aload_n 0, 1) := by decide +kernel
theorem dX5_init_109 : decode cX5_init 109 = .ok (.iconst 2, 1) := by decide +kernel
theorem dX5_init_110 : decode cX5_init 110 = .ok (.putfield 55, 3) := by decide +kernel
theorem dX5_init_113 : decode cX5_init 113 = .ok (.aload_n 0, 1) := by decide +kernel
theorem dX5_init_114 : decode cX5_init 114 = .ok (.bipush 30, 2) := by decide +kernel
theorem dX5_init_116 : decode cX5_init 116 = .ok (.putfield 58, 3) := by decide +kernel
theorem dX5_init_119 : decode cX5_init 119 = .ok (.aload_n 0, 1) := by decide +kernel
theorem dX5_init_120 : decode cX5_init 120 = .ok (.iconst 4, 1) := by decide +kernel
theorem dX5_init_121 : decode cX5_init 121 = .ok (.putfield 61, 3) := by decide +kernel
theorem dX5_init_124 : decode cX5_init 124 = .ok (.aload_n 0, 1) := by decide +kernel
theorem dX5_init_125 : decode cX5_init 125 = .ok (.bipush 50, 2) := by decide +kernel
theorem dX5_init_127 : decode cX5_init 127 = .ok (.putfield 64, 3) := by decide +kernel
theorem dX5_init_130 : decode cX5_init 130 = .ok (.return_, 1) := by decide +kernel
theorem dX5_thrown_0 : decode cX5_thrown 0 = .ok (.aload_n 0, 1) := by decide +kernel
theorem dX5_thrown_1 : decode cX5_thrown 1 = .ok (.getfield 67, 3) := by decide +kernel
theorem dX5_thrown_4 : decode cX5_thrown 4 = .ok (.ireturn, 1) := by decide +kernel
theorem dX5_fails_0 : decode cX5_fails 0 = .ok (.aload_n 0, 1) := by decide +kernel
theorem dX5_fails_1 : decode cX5_fails 1 = .ok (.iload_n 1, 1) := by decide +kernel
theorem dX5_fails_2 : decode cX5_fails 2 = .ok (.putfield 67, 3) := by decide +kernel
theorem dX5_fails_5 : decode cX5_fails 5 = .ok (.iload_n 1, 1) := by decide +kernel
theorem dX5_fails_6 : decode cX5_fails 6 = .ok (.ifCond .le 7, 3) := by decide +kernel
theorem dX5_fails_9 : decode cX5_fails 9 = .ok (.iconst 1, 1) := by decide +kernel
theorem dX5_fails_10 : decode cX5_fails 10 = .ok (.goto 4, 3) := by decide +kernel
theorem dX5_fails_13 : decode cX5_fails 13 = .ok (.iconst 0, 1) := by decide +kernel
theorem dX5_fails_14 : decode cX5_fails 14 = .ok (.ireturn, 1) := by decide +kernel
theorem dX5_tells_0 : decode cX5_tells 0 = .ok (.aload_n 0, 1) := by decide +kernel
theorem dX5_tells_1 : decode cX5_tells 1 = .ok (.iconst 0, 1) := by decide +kernel
theorem dX5_tells_2 : decode cX5_tells 2 = .ok (.putfield 67, 3) := by decide +kernel
theorem dX5_tells_5 : decode cX5_tells 5 = .ok (.iload_n 1, 1) := by decide +kernel
theorem dX5_tells_6 : decode cX5_tells 6 = .ok (.ireturn, 1) := by decide +kernel
theorem dX5_in_0 : decode cX5_in 0 = .ok (.iload_n 0, 1) := by decide +kernel
theorem dX5_in_1 : decode cX5_in 1 = .ok (.iload_n 1, 1) := by decide +kernel
theorem dX5_in_2 : decode cX5_in 2 = .ok (.if_icmp .lt 12, 3) := by decide +kernel
theorem dX5_in_5 : decode cX5_in 5 = .ok (.iload_n 0, 1) := by decide +kernel
theorem dX5_in_6 : decode cX5_in 6 = .ok (.iload_n 2, 1) := by decide +kernel
theorem dX5_in_7 : decode cX5_in 7 = .ok (.if_icmp .gt 7, 3) := by decide +kernel
theorem dX5_in_10 : decode cX5_in 10 = .ok (.iconst 1, 1) := by decide +kernel
theorem dX5_in_11 : decode cX5_in 11 = .ok (.goto 4, 3) := by decide +kernel
theorem dX5_in_14 : decode cX5_in 14 = .ok (.iconst 0, 1) := by decide +kernel
theorem dX5_in_15 : decode cX5_in 15 = .ok (.ireturn, 1) := by decide +kernel
set_option maxRecDepth 20000 in
theorem ggX5_isNoLane_X5_in : GoodIn wsX5_isNoLane wsX5_in := goodIn_r _ [5] (by decide +kernel) (by decide +kernel)
set_option maxRecDepth 20000 in
theorem gX5_isNoLane_X5_in : GoodIn wsX5_isNoLane (va_wsS RX5 73 yX5_in wsX5_in) := goodIn_app (goodIn_of _ (by decide +kernel)) ggX5_isNoLane_X5_in
theorem dX5_isNoLane_0 : decode cX5_isNoLane 0 = .ok (.iload_n 1, 1) := by decide +kernel
theorem dX5_isNoLane_1 : decode cX5_isNoLane 1 = .ok (.iconst 0, 1) := by decide +kernel
theorem dX5_isNoLane_2 : decode cX5_isNoLane 2 = .ok (.aload_n 0, 1) := by decide +kernel
theorem dX5_isNoLane_3 : decode cX5_isNoLane 3 = .ok (.getfield 70, 3) := by decide +kernel
theorem dX5_isNoLane_6 : decode cX5_isNoLane 6 = .ok (.iconst 1, 1) := by decide +kernel
theorem dX5_isNoLane_7 : decode cX5_isNoLane 7 = .ok (.isub, 1) := by decide +kernel
theorem dX5_isNoLane_8 : decode cX5_isNoLane 8 = .ok (.invokestatic 73, 3) := by decide +kernel
theorem dX5_isNoLane_11 : decode cX5_isNoLane 11 = .ok (.ifCond .ne 7, 3) := by decide +kernel
theorem dX5_isNoLane_14 : decode cX5_isNoLane 14 = .ok (.iconst 1, 1) := by decide +kernel
theorem dX5_isNoLane_15 : decode cX5_isNoLane 15 = .ok (.goto 4, 3) := by decide +kernel
theorem dX5_isNoLane_18 : decode cX5_isNoLane 18 = .ok (.iconst 0, 1) := by decide +kernel
theorem dX5_isNoLane_19 : decode cX5_isNoLane 19 = .ok (.ireturn, 1) := by decide +kernel
set_option maxRecDepth 20000 in
theorem ggX5_isNone_X5_in : GoodIn wsX5_isNone wsX5_in := goodIn_r _ [5] (by decide +kernel) (by decide +kernel)
set_option maxRecDepth 20000 in
theorem gX5_isNone_X5_in : GoodIn wsX5_isNone (va_wsS RX5 73 yX5_in wsX5_in) := goodIn_app (goodIn_of _ (by decide +kernel)) ggX5_isNone_X5_in
theorem dX5_isNone_0 : decode cX5_isNone 0 = .ok (.iload_n 1, 1) := by decide +kernel
theorem dX5_isNone_1 : decode cX5_isNone 1 = .ok (.iconst 0, 1) := by decide +kernel
theorem dX5_isNone_2 : decode cX5_isNone 2 = .ok (.aload_n 0, 1) := by decide +kernel
theorem dX5_isNone_3 : decode cX5_isNone 3 = .ok (.getfield 77, 3) := by decide +kernel
theorem dX5_isNone_6 : decode cX5_isNone 6 = .ok (.iconst 1, 1) := by decide +kernel
theorem dX5_isNone_7 : decode cX5_isNone 7 = .ok (.isub, 1) := by decide +kernel
theorem dX5_isNone_8 : decode cX5_isNone 8 = .ok (.invokestatic 73, 3) := by decide +kernel
theorem dX5_isNone_11 : decode cX5_isNone 11 = .ok (.ifCond .ne 7, 3) := by decide +kernel
theorem dX5_isNone_14 : decode cX5_isNone 14 = .ok (.iconst 1, 1) := by decide +kernel
theorem dX5_isNone_15 : decode cX5_isNone 15 = .ok (.goto 4, 3) := by decide +kernel
theorem dX5_isNone_18 : decode cX5_isNone 18 = .ok (.iconst 0, 1) := by decide +kernel
theorem dX5_isNone_19 : decode cX5_isNone 19 = .ok (.ireturn, 1) := by decide +kernel
set_option maxRecDepth 20000 in
theorem ggX5_addLane_X5_in : GoodIn wsX5_addLane wsX5_in := goodIn_r _ [7] (by decide +kernel) (by decide +kernel)
set_option maxRecDepth 20000 in
theorem gX5_addLane_X5_in : GoodIn wsX5_addLane (va_wsS RX5 73 yX5_in wsX5_in) := goodIn_app (goodIn_of _ (by decide +kernel)) ggX5_addLane_X5_in
set_option maxRecDepth 20000 in
theorem ggX5_addLane_X5_fails : GoodIn wsX5_addLane wsX5_fails := goodIn_r _ [11, 12, 13, 14, 15, 16, 17, 18, 19, 20, 21, 22, 23, 24, 25, 26, 27, 28, 29, 30, 31, 32, 33, 34, 35, 36, 37] (by decide +kernel) (by decide +kernel)
set_option maxRecDepth 20000 in
theorem gX5_addLane_X5_fails : GoodIn wsX5_addLane (wsV RX5 80 RX5 yX5_fails wsX5_fails) := goodIn_app (goodIn_of _ (by decide +kernel)) ggX5_addLane_X5_fails
theorem dX5_addLane_0 : decode cX5_addLane 0 = .ok (.aload_n 0, 1) := by decide +kernel
theorem dX5_addLane_1 : decode cX5_addLane 1 = .ok (.iload_n 1, 1) := by decide +kernel
theorem dX5_addLane_2 : decode cX5_addLane 2 = .ok (.iconst 1, 1) := by decide +kernel
theorem dX5_addLane_3 : decode cX5_addLane 3 = .ok (.iconst 3, 1) := by decide +kernel
theorem dX5_addLane_4 : decode cX5_addLane 4 = .ok (.invokestatic 73, 3) := by decide +kernel
theorem dX5_addLane_7 : decode cX5_addLane 7 = .ok (.ifCond .ne 7, 3) := by decide +kernel
theorem dX5_addLane_10 : decode cX5_addLane 10 = .ok (.iconst 1, 1) := by decide +kernel
theorem dX5_addLane_11 : decode cX5_addLane 11 = .ok (.goto 16, 3) := by decide +kernel
theorem dX5_addLane_14 : decode cX5_addLane 14 = .ok (.aload_n 0, 1) := by decide +kernel
theorem dX5_addLane_15 : decode cX5_addLane 15 = .ok (.getfield 70, 3) := by decide +kernel
theorem dX5_addLane_18 : decode cX5_addLane 18 = .ok (.iconst 4, 1) := by decide +kernel
theorem dX5_addLane_19 : decode cX5_addLane 19 = .ok (.if_icmp .ne 7, 3) := by decide +kernel
theorem dX5_addLane_22 : decode cX5_addLane 22 = .ok (.iconst 2, 1) := by decide +kernel
theorem dX5_addLane_23 : decode cX5_addLane 23 = .ok (.goto 4, 3) := by decide +kernel
theorem dX5_addLane_26 : decode cX5_addLane 26 = .ok (.iconst 0, 1) := by decide +kernel
theorem dX5_addLane_27 : decode cX5_addLane 27 = .ok (.invokevirtual 80, 3) := by decide +kernel
theorem dX5_addLane_30 : decode cX5_addLane 30 = .ok (.ifCond .eq 5, 3) := by decide +kernel
theorem dX5_addLane_33 : decode cX5_addLane 33 = .ok (.iconst 0, 1) := by decide +kernel
theorem dX5_addLane_34 : decode cX5_addLane 34 = .ok (.ireturn, 1) := by decide +kernel
theorem dX5_addLane_35 : decode cX5_addLane 35 = .ok (.aload_n 0, 1) := by decide +kernel
theorem dX5_addLane_36 : decode cX5_addLane 36 = .ok (.getfield 7, 3) := by decide +kernel
theorem dX5_addLane_39 : decode cX5_addLane 39 = .ok (.aload_n 0, 1) := by decide +kernel
theorem dX5_addLane_40 : decode cX5_addLane 40 = .ok (.getfield 70, 3) := by decide +kernel
theorem dX5_addLane_43 : decode cX5_addLane 43 = .ok (.iload_n 1, 1) := by decide +kernel
theorem dX5_addLane_44 : decode cX5_addLane 44 = .ok (.iastore, 1) := by decide +kernel
theorem dX5_addLane_45 : decode cX5_addLane 45 = .ok (.aload_n 0, 1) := by decide +kernel
theorem dX5_addLane_46 : decode cX5_addLane 46 = .ok (.getfield 13, 3) := by decide +kernel
theorem dX5_addLane_49 : decode cX5_addLane 49 = .ok (.aload_n 0, 1) := by decide +kernel
theorem dX5_addLane_50 : decode cX5_addLane 50 = .ok (.getfield 70, 3) := by decide +kernel
theorem dX5_addLane_53 : decode cX5_addLane 53 = .ok (.iload_n 2, 1) := by decide +kernel
theorem dX5_addLane_54 : decode cX5_addLane 54 = .ok (.bastore, 1) := by decide +kernel
theorem dX5_addLane_55 : decode cX5_addLane 55 = .ok (.aload_n 0, 1) := by decide +kernel
theorem dX5_addLane_56 : decode cX5_addLane 56 = .ok (.dup, 1) := by decide +kernel
theorem dX5_addLane_57 : decode cX5_addLane 57 = .ok (.getfield 70, 3) := by decide +kernel
theorem dX5_addLane_60 : decode cX5_addLane 60 = .ok (.iconst 1, 1) := by decide +kernel
theorem dX5_addLane_61 : decode cX5_addLane 61 = .ok (.iadd, 1) := by decide +kernel
theorem dX5_addLane_62 : decode cX5_addLane 62 = .ok (.putfield 70, 3) := by decide +kernel
theorem dX5_addLane_65 : decode cX5_addLane 65 = .ok (.aload_n 0, 1) := by decide +kernel
theorem dX5_addLane_66 : decode cX5_addLane 66 = .ok (.getfield 70, 3) := by decide +kernel
theorem dX5_addLane_69 : decode cX5_addLane 69 = .ok (.iconst 1, 1) := by decide +kernel
theorem dX5_addLane_70 : decode cX5_addLane 70 = .ok (.isub, 1) := by decide +kernel
theorem dX5_addLane_71 : decode cX5_addLane 71 = .ok (.ireturn, 1) := by decide +kernel
set_option maxRecDepth 20000 in
theorem ggX5_addDoor_X5_fails : GoodIn wsX5_addDoor wsX5_fails := goodIn_r _ [8, 9, 10, 11, 12, 13, 14, 15, 16, 17, 18, 19, 20, 21, 22, 23, 24, 25, 26, 27, 28, 29, 30, 31, 32, 33, 34] (by decide +kernel) (by decide +kernel)
set_option maxRecDepth 20000 in
theorem gX5_addDoor_X5_fails : GoodIn wsX5_addDoor (wsV RX5 80 RX5 yX5_fails wsX5_fails) := goodIn_app (goodIn_of _ (by decide +kernel)) ggX5_addDoor_X5_fails
theorem dX5_addDoor_0 : decode cX5_addDoor 0 = .ok (.aload_n 0, 1) := by decide +kernel
theorem dX5_addDoor_1 : decode cX5_addDoor 1 = .ok (.iload_n 1, 1) := by decide +kernel
theorem dX5_addDoor_2 : decode cX5_addDoor 2 = .ok (.bipush 100, 2) := by decide +kernel
theorem dX5_addDoor_4 : decode cX5_addDoor 4 = .ok (.if_icmp .eq 19, 3) := by decide +kernel
theorem dX5_addDoor_7 : decode cX5_addDoor 7 = .ok (.iload_n 1, 1) := by decide +kernel
theorem dX5_addDoor_8 : decode cX5_addDoor 8 = .ok (.bipush 99, 2) := by decide +kernel
theorem dX5_addDoor_10 : decode cX5_addDoor 10 = .ok (.if_icmp .eq 13, 3) := by decide +kernel
theorem dX5_addDoor_13 : decode cX5_addDoor 13 = .ok (.iload_n 1, 1) := by decide +kernel
theorem dX5_addDoor_14 : decode cX5_addDoor 14 = .ok (.bipush 98, 2) := by decide +kernel
theorem dX5_addDoor_16 : decode cX5_addDoor 16 = .ok (.if_icmp .eq 7, 3) := by decide +kernel
theorem dX5_addDoor_19 : decode cX5_addDoor 19 = .ok (.iconst 1, 1) := by decide +kernel
theorem dX5_addDoor_20 : decode cX5_addDoor 20 = .ok (.goto 16, 3) := by decide +kernel
theorem dX5_addDoor_23 : decode cX5_addDoor 23 = .ok (.aload_n 0, 1) := by decide +kernel
theorem dX5_addDoor_24 : decode cX5_addDoor 24 = .ok (.getfield 84, 3) := by decide +kernel
theorem dX5_addDoor_27 : decode cX5_addDoor 27 = .ok (.iconst 4, 1) := by decide +kernel
theorem dX5_addDoor_28 : decode cX5_addDoor 28 = .ok (.if_icmp .ne 7, 3) := by decide +kernel
theorem dX5_addDoor_31 : decode cX5_addDoor 31 = .ok (.iconst 2, 1) := by decide +kernel
theorem dX5_addDoor_32 : decode cX5_addDoor 32 = .ok (.goto 4, 3) := by decide +kernel
theorem dX5_addDoor_35 : decode cX5_addDoor 35 = .ok (.iconst 0, 1) := by decide +kernel
theorem dX5_addDoor_36 : decode cX5_addDoor 36 = .ok (.invokevirtual 80, 3) := by decide +kernel
theorem dX5_addDoor_39 : decode cX5_addDoor 39 = .ok (.ifCond .eq 5, 3) := by decide +kernel
theorem dX5_addDoor_42 : decode cX5_addDoor 42 = .ok (.iconst 0, 1) := by decide +kernel
theorem dX5_addDoor_43 : decode cX5_addDoor 43 = .ok (.ireturn, 1) := by decide +kernel
theorem dX5_addDoor_44 : decode cX5_addDoor 44 = .ok (.aload_n 0, 1) := by decide +kernel
theorem dX5_addDoor_45 : decode cX5_addDoor 45 = .ok (.getfield 23, 3) := by decide +kernel
theorem dX5_addDoor_48 : decode cX5_addDoor 48 = .ok (.aload_n 0, 1) := by decide +kernel
theorem dX5_addDoor_49 : decode cX5_addDoor 49 = .ok (.getfield 84, 3) := by decide +kernel
theorem dX5_addDoor_52 : decode cX5_addDoor 52 = .ok (.iload_n 1, 1) := by decide +kernel
theorem dX5_addDoor_53 : decode cX5_addDoor 53 = .ok (.castore, 1) := by decide +kernel
theorem dX5_addDoor_54 : decode cX5_addDoor 54 = .ok (.aload_n 0, 1) := by decide +kernel
theorem dX5_addDoor_55 : decode cX5_addDoor 55 = .ok (.getfield 27, 3) := by decide +kernel
theorem dX5_addDoor_58 : decode cX5_addDoor 58 = .ok (.aload_n 0, 1) := by decide +kernel
theorem dX5_addDoor_59 : decode cX5_addDoor 59 = .ok (.getfield 84, 3) := by decide +kernel
theorem dX5_addDoor_62 : decode cX5_addDoor 62 = .ok (.iconst (-1), 1) := by decide +kernel
theorem dX5_addDoor_63 : decode cX5_addDoor 63 = .ok (.iastore, 1) := by decide +kernel
theorem dX5_addDoor_64 : decode cX5_addDoor 64 = .ok (.aload_n 0, 1) := by decide +kernel
theorem dX5_addDoor_65 : decode cX5_addDoor 65 = .ok (.dup, 1) := by decide +kernel
theorem dX5_addDoor_66 : decode cX5_addDoor 66 = .ok (.getfield 84, 3) := by decide +kernel
theorem dX5_addDoor_69 : decode cX5_addDoor 69 = .ok (.iconst 1, 1) := by decide +kernel
theorem dX5_addDoor_70 : decode cX5_addDoor 70 = .ok (.iadd, 1) := by decide +kernel
theorem dX5_addDoor_71 : decode cX5_addDoor 71 = .ok (.putfield 84, 3) := by decide +kernel
theorem dX5_addDoor_74 : decode cX5_addDoor 74 = .ok (.aload_n 0, 1) := by decide +kernel
theorem dX5_addDoor_75 : decode cX5_addDoor 75 = .ok (.getfield 84, 3) := by decide +kernel
theorem dX5_addDoor_78 : decode cX5_addDoor 78 = .ok (.iconst 1, 1) := by decide +kernel
theorem dX5_addDoor_79 : decode cX5_addDoor 79 = .ok (.isub, 1) := by decide +kernel
theorem dX5_addDoor_80 : decode cX5_addDoor 80 = .ok (.ireturn, 1) := by decide +kernel
set_option maxRecDepth 20000 in
theorem ggX5_setTolerance_X5_in : GoodIn wsX5_setTolerance wsX5_in := goodIn_r _ [5] (by decide +kernel) (by decide +kernel)
set_option maxRecDepth 20000 in
theorem gX5_setTolerance_X5_in : GoodIn wsX5_setTolerance (va_wsS RX5 73 yX5_in wsX5_in) := goodIn_app (goodIn_of _ (by decide +kernel)) ggX5_setTolerance_X5_in
set_option maxRecDepth 20000 in
theorem ggX5_setTolerance_X5_fails : GoodIn wsX5_setTolerance wsX5_fails := goodIn_r _ [9, 10, 11, 12, 13, 14, 15, 16, 17, 18, 19, 20, 21, 22, 23, 24, 25, 26, 27, 28, 29, 30, 31, 32, 33, 34, 35] (by decide +kernel) (by decide +kernel)
set_option maxRecDepth 20000 in
theorem gX5_setTolerance_X5_fails : GoodIn wsX5_setTolerance (wsV RX5 80 RX5 yX5_fails wsX5_fails) := goodIn_app (goodIn_of _ (by decide +kernel)) ggX5_setTolerance_X5_fails
theorem dX5_setTolerance_0 : decode cX5_setTolerance 0 = .ok (.aload_n 0, 1) := by decide +kernel
theorem dX5_setTolerance_1 : decode cX5_setTolerance 1 = .ok (.iload_n 1, 1) := by decide +kernel
theorem dX5_setTolerance_2 : decode cX5_setTolerance 2 = .ok (.iconst 0, 1) := by decide +kernel
theorem dX5_setTolerance_3 : decode cX5_setTolerance 3 = .ok (.bipush 9, 2) := by decide +kernel
theorem dX5_setTolerance_5 : decode cX5_setTolerance 5 = .ok (.invokestatic 73, 3) := by decide +kernel
theorem dX5_setTolerance_8 : decode cX5_setTolerance 8 = .ok (.ifCond .eq 7, 3) := by decide +kernel
theorem dX5_setTolerance_11 : decode cX5_setTolerance 11 = .ok (.iconst 0, 1) := by decide +kernel
theorem dX5_setTolerance_12 : decode cX5_setTolerance 12 = .ok (.goto 4, 3) := by decide +kernel
theorem dX5_setTolerance_15 : decode cX5_setTolerance 15 = .ok (.iconst 1, 1) := by decide +kernel
theorem dX5_setTolerance_16 : decode cX5_setTolerance 16 = .ok (.invokevirtual 80, 3) := by decide +kernel
theorem dX5_setTolerance_19 : decode cX5_setTolerance 19 = .ok (.ifCond .eq 5, 3) := by decide +kernel
theorem dX5_setTolerance_22 : decode cX5_setTolerance 22 = .ok (.iconst 0, 1) := by decide +kernel
theorem dX5_setTolerance_23 : decode cX5_setTolerance 23 = .ok (.ireturn, 1) := by decide +kernel
theorem dX5_setTolerance_24 : decode cX5_setTolerance 24 = .ok (.aload_n 0, 1) := by decide +kernel
theorem dX5_setTolerance_25 : decode cX5_setTolerance 25 = .ok (.getfield 51, 3) := by decide +kernel
theorem dX5_setTolerance_28 : decode cX5_setTolerance 28 = .ok (.istore_n 2, 1) := by decide +kernel
theorem dX5_setTolerance_29 : decode cX5_setTolerance 29 = .ok (.aload_n 0, 1) := by decide +kernel
theorem dX5_setTolerance_30 : decode cX5_setTolerance 30 = .ok (.iload_n 1, 1) := by decide +kernel
theorem dX5_setTolerance_31 : decode cX5_setTolerance 31 = .ok (.putfield 51, 3) := by decide +kernel
theorem dX5_setTolerance_34 : decode cX5_setTolerance 34 = .ok (.iload_n 2, 1) := by decide +kernel
theorem dX5_setTolerance_35 : decode cX5_setTolerance 35 = .ok (.ireturn, 1) := by decide +kernel
set_option maxRecDepth 20000 in
theorem ggX5_setCharges_X5_in : GoodIn wsX5_setCharges wsX5_in := goodIn_r _ [8] (by decide +kernel) (by decide +kernel)
set_option maxRecDepth 20000 in
theorem gX5_setCharges_X5_in : GoodIn wsX5_setCharges (va_wsS RX5 73 yX5_in wsX5_in) := goodIn_app (goodIn_of _ (by decide +kernel)) ggX5_setCharges_X5_in
set_option maxRecDepth 20000 in
theorem ggX5_setCharges_X5_fails : GoodIn wsX5_setCharges wsX5_fails := goodIn_r _ [12, 13, 14, 15, 16, 17, 18, 19, 20, 21, 22, 23, 24, 25, 26, 27, 28, 29, 30, 31, 32, 33, 34, 35, 36, 37, 38] (by decide +kernel) (by decide +kernel)
set_option maxRecDepth 20000 in
theorem gX5_setCharges_X5_fails : GoodIn wsX5_setCharges (wsV RX5 80 RX5 yX5_fails wsX5_fails) := goodIn_app (goodIn_of _ (by decide +kernel)) ggX5_setCharges_X5_fails
theorem dX5_setCharges_0 : decode cX5_setCharges 0 = .ok (.aload_n 0, 1) := by decide +kernel
theorem dX5_setCharges_1 : decode cX5_setCharges 1 = .ok (.iload_n 1, 1) := by decide +kernel
theorem dX5_setCharges_2 : decode cX5_setCharges 2 = .ok (.iconst 0, 1) := by decide +kernel
theorem dX5_setCharges_3 : decode cX5_setCharges 3 = .ok (.bipush 24, 2) := by decide +kernel
theorem dX5_setCharges_5 : decode cX5_setCharges 5 = .ok (.invokestatic 73, 3) := by decide +kernel
theorem dX5_setCharges_8 : decode cX5_setCharges 8 = .ok (.ifCond .eq 38, 3) := by decide +kernel
theorem dX5_setCharges_11 : decode cX5_setCharges 11 = .ok (.iload_n 2, 1) := by decide +kernel
theorem dX5_setCharges_12 : decode cX5_setCharges 12 = .ok (.iconst 0, 1) := by decide +kernel
theorem dX5_setCharges_13 : decode cX5_setCharges 13 = .ok (.bipush 99, 2) := by decide +kernel
theorem dX5_setCharges_15 : decode cX5_setCharges 15 = .ok (.invokestatic 73, 3) := by decide +kernel
theorem dX5_setCharges_18 : decode cX5_setCharges 18 = .ok (.ifCond .eq 28, 3) := by decide +kernel
theorem dX5_setCharges_21 : decode cX5_setCharges 21 = .ok (.iload_n 3, 1) := by decide +kernel
theorem dX5_setCharges_22 : decode cX5_setCharges 22 = .ok (.iconst 0, 1) := by decide +kernel
theorem dX5_setCharges_23 : decode cX5_setCharges 23 = .ok (.bipush 24, 2) := by decide +kernel
theorem dX5_setCharges_25 : decode cX5_setCharges 25 = .ok (.invokestatic 73, 3) := by decide +kernel
theorem dX5_setCharges_28 : decode cX5_setCharges 28 = .ok (.ifCond .eq 18, 3) := by decide +kernel
theorem dX5_setCharges_31 : decode cX5_setCharges 31 = .ok (.iload 4, 2) := by decide +kernel
theorem dX5_setCharges_33 : decode cX5_setCharges 33 = .ok (.iconst 0, 1) := by decide +kernel
theorem dX5_setCharges_34 : decode cX5_setCharges 34 = .ok (.bipush 99, 2) := by decide +kernel
theorem dX5_setCharges_36 : decode cX5_setCharges 36 = .ok (.invokestatic 73, 3) := by decide +kernel
theorem dX5_setCharges_39 : decode cX5_setCharges 39 = .ok (.ifCond .eq 7, 3) := by decide +kernel
theorem dX5_setCharges_42 : decode cX5_setCharges 42 = .ok (.iconst 0, 1) := by decide +kernel
theorem dX5_setCharges_43 : decode cX5_setCharges 43 = .ok (.goto 4, 3) := by decide +kernel
theorem dX5_setCharges_46 : decode cX5_setCharges 46 = .ok (.iconst 1, 1) := by decide +kernel
theorem dX5_setCharges_47 : decode cX5_setCharges 47 = .ok (.invokevirtual 80, 3) := by decide +kernel
theorem dX5_setCharges_50 : decode cX5_setCharges 50 = .ok (.ifCond .eq 5, 3) := by decide +kernel
theorem dX5_setCharges_53 : decode cX5_setCharges 53 = .ok (.iconst 0, 1) := by decide +kernel
theorem dX5_setCharges_54 : decode cX5_setCharges 54 = .ok (.ireturn, 1) := by decide +kernel
theorem dX5_setCharges_55 : decode cX5_setCharges 55 = .ok (.aload_n 0, 1) := by decide +kernel
theorem dX5_setCharges_56 : decode cX5_setCharges 56 = .ok (.getfield 55, 3) := by decide +kernel
theorem dX5_setCharges_59 : decode cX5_setCharges 59 = .ok (.istore 5, 2) := by decide +kernel
theorem dX5_setCharges_61 : decode cX5_setCharges 61 = .ok (.aload_n 0, 1) := by decide +kernel
theorem dX5_setCharges_62 : decode cX5_setCharges 62 = .ok (.iload_n 1, 1) := by decide +kernel
theorem dX5_setCharges_63 : decode cX5_setCharges 63 = .ok (.putfield 55, 3) := by decide +kernel
theorem dX5_setCharges_66 : decode cX5_setCharges 66 = .ok (.aload_n 0, 1) := by decide +kernel
theorem dX5_setCharges_67 : decode cX5_setCharges 67 = .ok (.iload_n 2, 1) := by decide +kernel
theorem dX5_setCharges_68 : decode cX5_setCharges 68 = .ok (.putfield 58, 3) := by decide +kernel
theorem dX5_setCharges_71 : decode cX5_setCharges 71 = .ok (.aload_n 0, 1) := by decide +kernel
theorem dX5_setCharges_72 : decode cX5_setCharges 72 = .ok (.iload_n 3, 1) := by decide +kernel
theorem dX5_setCharges_73 : decode cX5_setCharges 73 = .ok (.putfield 61, 3) := by decide +kernel
theorem dX5_setCharges_76 : decode cX5_setCharges 76 = .ok (.aload_n 0, 1) := by decide +kernel
theorem dX5_setCharges_77 : decode cX5_setCharges 77 = .ok (.iload 4, 2) := by decide +kernel
theorem dX5_setCharges_79 : decode cX5_setCharges 79 = .ok (.putfield 64, 3) := by decide +kernel
theorem dX5_setCharges_82 : decode cX5_setCharges 82 = .ok (.iload 5, 2) := by decide +kernel
theorem dX5_setCharges_84 : decode cX5_setCharges 84 = .ok (.ireturn, 1) := by decide +kernel
set_option maxRecDepth 20000 in
theorem ggX5_book_X5_in : GoodIn wsX5_book wsX5_in := goodIn_r _ [10] (by decide +kernel) (by decide +kernel)
set_option maxRecDepth 20000 in
theorem gX5_book_X5_in : GoodIn wsX5_book (va_wsS RX5 73 yX5_in wsX5_in) := goodIn_app (goodIn_of _ (by decide +kernel)) ggX5_book_X5_in
set_option maxRecDepth 20000 in
theorem ggX5_book_X5_fails : GoodIn wsX5_book wsX5_fails := goodIn_r _ [14, 15, 16, 17, 18, 19, 20, 21, 22, 23, 24, 25, 26, 27, 28, 29, 30, 31, 32, 33, 34, 35, 36, 37, 38, 39, 40] (by decide +kernel) (by decide +kernel)
set_option maxRecDepth 20000 in
theorem gX5_book_X5_fails : GoodIn wsX5_book (wsV RX5 80 RX5 yX5_fails wsX5_fails) := goodIn_app (goodIn_of _ (by decide +kernel)) ggX5_book_X5_fails
theorem dX5_book_0 : decode cX5_book 0 = .ok (.aload_n 0, 1) := by decide +kernel
theorem dX5_book_1 : decode cX5_book 1 = .ok (.iload_n 1, 1) := by decide +kernel
theorem dX5_book_2 : decode cX5_book 2 = .ok (.aload_n 0, 1) := by decide +kernel
theorem dX5_book_3 : decode cX5_book 3 = .ok (.getfield 87, 3) := by decide +kernel
theorem dX5_book_6 : decode cX5_book 6 = .ok (.sipush 999, 3) := by decide +kernel
theorem dX5_book_9 : decode cX5_book 9 = .ok (.invokestatic 73, 3) := by decide +kernel
theorem dX5_book_12 : decode cX5_book 12 = .ok (.ifCond .eq 25, 3) := by decide +kernel
theorem dX5_book_15 : decode cX5_book 15 = .ok (.iload_n 2, 1) := by decide +kernel
theorem dX5_book_16 : decode cX5_book 16 = .ok (.bipush 100, 2) := by decide +kernel
theorem dX5_book_18 : decode cX5_book 18 = .ok (.if_icmp .eq 9, 3) := by decide +kernel
theorem dX5_book_21 : decode cX5_book 21 = .ok (.iload_n 2, 1) := by decide +kernel
theorem dX5_book_22 : decode cX5_book 22 = .ok (.bipush 99, 2) := by decide +kernel
theorem dX5_book_24 : decode cX5_book 24 = .ok (.if_icmp .ne 13, 3) := by decide +kernel
theorem dX5_book_27 : decode cX5_book 27 = .ok (.iload_n 3, 1) := by decide +kernel
theorem dX5_book_28 : decode cX5_book 28 = .ok (.iconst 1, 1) := by decide +kernel
theorem dX5_book_29 : decode cX5_book 29 = .ok (.bipush 9, 2) := by decide +kernel
theorem dX5_book_31 : decode cX5_book 31 = .ok (.invokestatic 73, 3) := by decide +kernel
theorem dX5_book_34 : decode cX5_book 34 = .ok (.ifCond .ne 7, 3) := by decide +kernel
theorem dX5_book_37 : decode cX5_book 37 = .ok (.iconst 1, 1) := by decide +kernel
theorem dX5_book_38 : decode cX5_book 38 = .ok (.goto 17, 3) := by decide +kernel
theorem dX5_book_41 : decode cX5_book 41 = .ok (.aload_n 0, 1) := by decide +kernel
theorem dX5_book_42 : decode cX5_book 42 = .ok (.getfield 77, 3) := by decide +kernel
theorem dX5_book_45 : decode cX5_book 45 = .ok (.bipush 40, 2) := by decide +kernel
theorem dX5_book_47 : decode cX5_book 47 = .ok (.if_icmp .ne 7, 3) := by decide +kernel
theorem dX5_book_50 : decode cX5_book 50 = .ok (.iconst 2, 1) := by decide +kernel
theorem dX5_book_51 : decode cX5_book 51 = .ok (.goto 4, 3) := by decide +kernel
theorem dX5_book_54 : decode cX5_book 54 = .ok (.iconst 0, 1) := by decide +kernel
theorem dX5_book_55 : decode cX5_book 55 = .ok (.invokevirtual 80, 3) := by decide +kernel
theorem dX5_book_58 : decode cX5_book 58 = .ok (.ifCond .eq 5, 3) := by decide +kernel
theorem dX5_book_61 : decode cX5_book 61 = .ok (.iconst 0, 1) := by decide +kernel
theorem dX5_book_62 : decode cX5_book 62 = .ok (.ireturn, 1) := by decide +kernel
theorem dX5_book_63 : decode cX5_book 63 = .ok (.aload_n 0, 1) := by decide +kernel
theorem dX5_book_64 : decode cX5_book 64 = .ok (.getfield 30, 3) := by decide +kernel
theorem dX5_book_67 : decode cX5_book 67 = .ok (.aload_n 0, 1) := by decide +kernel
theorem dX5_book_68 : decode cX5_book 68 = .ok (.getfield 77, 3) := by decide +kernel
theorem dX5_book_71 : decode cX5_book 71 = .ok (.iload_n 1, 1) := by decide +kernel
theorem dX5_book_72 : decode cX5_book 72 = .ok (.iastore, 1) := by decide +kernel
theorem dX5_book_73 : decode cX5_book 73 = .ok (.aload_n 0, 1) := by decide +kernel
theorem dX5_book_74 : decode cX5_book 74 = .ok (.getfield 33, 3) := by decide +kernel
theorem dX5_book_77 : decode cX5_book 77 = .ok (.aload_n 0, 1) := by decide +kernel
theorem dX5_book_78 : decode cX5_book 78 = .ok (.getfield 77, 3) := by decide +kernel
theorem dX5_book_81 : decode cX5_book 81 = .ok (.iload_n 2, 1) := by decide +kernel
theorem dX5_book_82 : decode cX5_book 82 = .ok (.castore, 1) := by decide +kernel
theorem dX5_book_83 : decode cX5_book 83 = .ok (.aload_n 0, 1) := by decide +kernel
theorem dX5_book_84 : decode cX5_book 84 = .ok (.getfield 36, 3) := by decide +kernel
theorem dX5_book_87 : decode cX5_book 87 = .ok (.aload_n 0, 1) := by decide +kernel
theorem dX5_book_88 : decode cX5_book 88 = .ok (.getfield 77, 3) := by decide +kernel
theorem dX5_book_91 : decode cX5_book 91 = .ok (.iload_n 3, 1) := by decide +kernel
theorem dX5_book_92 : decode cX5_book 92 = .ok (.iastore, 1) := by decide +kernel
theorem dX5_book_93 : decode cX5_book 93 = .ok (.aload_n 0, 1) := by decide +kernel
theorem dX5_book_94 : decode cX5_book 94 = .ok (.getfield 39, 3) := by decide +kernel
theorem dX5_book_97 : decode cX5_book 97 = .ok (.aload_n 0, 1) := by decide +kernel
theorem dX5_book_98 : decode cX5_book 98 = .ok (.getfield 77, 3) := by decide +kernel
theorem dX5_book_101 : decode cX5_book 101 = .ok (.bipush 98, 2) := by decide +kernel
theorem dX5_book_103 : decode cX5_book 103 = .ok (.castore, 1) := by decide +kernel
theorem dX5_book_104 : decode cX5_book 104 = .ok (.aload_n 0, 1) := by decide +kernel
theorem dX5_book_105 : decode cX5_book 105 = .ok (.dup, 1) := by decide +kernel
theorem dX5_book_106 : decode cX5_book 106 = .ok (.getfield 77, 3) := by decide +kernel
theorem dX5_book_109 : decode cX5_book 109 = .ok (.iconst 1, 1) := by decide +kernel
theorem dX5_book_110 : decode cX5_book 110 = .ok (.iadd, 1) := by decide +kernel
theorem dX5_book_111 : decode cX5_book 111 = .ok (.putfield 77, 3) := by decide +kernel
theorem dX5_book_114 : decode cX5_book 114 = .ok (.aload_n 0, 1) := by decide +kernel
theorem dX5_book_115 : decode cX5_book 115 = .ok (.getfield 77, 3) := by decide +kernel
theorem dX5_book_118 : decode cX5_book 118 = .ok (.iconst 1, 1) := by decide +kernel
theorem dX5_book_119 : decode cX5_book 119 = .ok (.isub, 1) := by decide +kernel
theorem dX5_book_120 : decode cX5_book 120 = .ok (.ireturn, 1) := by decide +kernel
theorem dX5_canCome_0 : decode cX5_canCome 0 = .ok (.aload_n 0, 1) := by decide +kernel
theorem dX5_canCome_1 : decode cX5_canCome 1 = .ok (.getfield 17, 3) := by decide +kernel
theorem dX5_canCome_4 : decode cX5_canCome 4 = .ok (.iload_n 2, 1) := by decide +kernel
theorem dX5_canCome_5 : decode cX5_canCome 5 = .ok (.iaload, 1) := by decide +kernel
theorem dX5_canCome_6 : decode cX5_canCome 6 = .ok (.aload_n 0, 1) := by decide +kernel
theorem dX5_canCome_7 : decode cX5_canCome 7 = .ok (.getfield 7, 3) := by decide +kernel
theorem dX5_canCome_10 : decode cX5_canCome 10 = .ok (.iload_n 2, 1) := by decide +kernel
theorem dX5_canCome_11 : decode cX5_canCome 11 = .ok (.iaload, 1) := by decide +kernel
theorem dX5_canCome_12 : decode cX5_canCome 12 = .ok (.if_icmp .ge 27, 3) := by decide +kernel
theorem dX5_canCome_15 : decode cX5_canCome 15 = .ok (.aload_n 0, 1) := by decide +kernel
theorem dX5_canCome_16 : decode cX5_canCome 16 = .ok (.getfield 33, 3) := by decide +kernel
theorem dX5_canCome_19 : decode cX5_canCome 19 = .ok (.iload_n 1, 1) := by decide +kernel
theorem dX5_canCome_20 : decode cX5_canCome 20 = .ok (.caload, 1) := by decide +kernel
theorem dX5_canCome_21 : decode cX5_canCome 21 = .ok (.bipush 100, 2) := by decide +kernel
theorem dX5_canCome_23 : decode cX5_canCome 23 = .ok (.if_icmp .eq 12, 3) := by decide +kernel
theorem dX5_canCome_26 : decode cX5_canCome 26 = .ok (.aload_n 0, 1) := by decide +kernel
theorem dX5_canCome_27 : decode cX5_canCome 27 = .ok (.getfield 13, 3) := by decide +kernel
theorem dX5_canCome_30 : decode cX5_canCome 30 = .ok (.iload_n 2, 1) := by decide +kernel
theorem dX5_canCome_31 : decode cX5_canCome 31 = .ok (.baload, 1) := by decide +kernel
theorem dX5_canCome_32 : decode cX5_canCome 32 = .ok (.ifCond .eq 7, 3) := by decide +kernel
theorem dX5_canCome_35 : decode cX5_canCome 35 = .ok (.iconst 1, 1) := by decide +kernel
theorem dX5_canCome_36 : decode cX5_canCome 36 = .ok (.goto 4, 3) := by decide +kernel
theorem dX5_canCome_39 : decode cX5_canCome 39 = .ok (.iconst 0, 1) := by decide +kernel
theorem dX5_canCome_40 : decode cX5_canCome 40 = .ok (.ireturn, 1) := by decide +kernel
theorem dX5_comes_0 : decode cX5_comes 0 = .ok (.aload_n 0, 1) := by decide +kernel
theorem dX5_comes_1 : decode cX5_comes 1 = .ok (.getfield 20, 3) := by decide +kernel
theorem dX5_comes_4 : decode cX5_comes 4 = .ok (.iconst 3, 1) := by decide +kernel
theorem dX5_comes_5 : decode cX5_comes 5 = .ok (.iload_n 2, 1) := by decide +kernel
theorem dX5_comes_6 : decode cX5_comes 6 = .ok (.imul, 1) := by decide +kernel
theorem dX5_comes_7 : decode cX5_comes 7 = .ok (.aload_n 0, 1) := by decide +kernel
theorem dX5_comes_8 : decode cX5_comes 8 = .ok (.getfield 17, 3) := by decide +kernel
theorem dX5_comes_11 : decode cX5_comes 11 = .ok (.iload_n 2, 1) := by decide +kernel
theorem dX5_comes_12 : decode cX5_comes 12 = .ok (.iaload, 1) := by decide +kernel
theorem dX5_comes_13 : decode cX5_comes 13 = .ok (.iadd, 1) := by decide +kernel
theorem dX5_comes_14 : decode cX5_comes 14 = .ok (.iload_n 1, 1) := by decide +kernel
theorem dX5_comes_15 : decode cX5_comes 15 = .ok (.iastore, 1) := by decide +kernel
theorem dX5_comes_16 : decode cX5_comes 16 = .ok (.aload_n 0, 1) := by decide +kernel
theorem dX5_comes_17 : decode cX5_comes 17 = .ok (.getfield 17, 3) := by decide +kernel
theorem dX5_comes_20 : decode cX5_comes 20 = .ok (.iload_n 2, 1) := by decide +kernel
theorem dX5_comes_21 : decode cX5_comes 21 = .ok (.dup2, 1) := by decide +kernel
theorem dX5_comes_22 : decode cX5_comes 22 = .ok (.iaload, 1) := by decide +kernel
theorem dX5_comes_23 : decode cX5_comes 23 = .ok (.iconst 1, 1) := by decide +kernel
theorem dX5_comes_24 : decode cX5_comes 24 = .ok (.iadd, 1) := by decide +kernel
theorem dX5_comes_25 : decode cX5_comes 25 = .ok (.iastore, 1) := by decide +kernel
theorem dX5_comes_26 : decode cX5_comes 26 = .ok (.return_, 1) := by decide +kernel
theorem dX5_inLanes_0 : decode cX5_inLanes 0 = .ok (.iconst 0, 1) := by decide +kernel
theorem dX5_inLanes_1 : decode cX5_inLanes 1 = .ok (.istore_n 1, 1) := by decide +kernel
theorem dX5_inLanes_2 : decode cX5_inLanes 2 = .ok (.iconst 0, 1) := by decide +kernel
theorem dX5_inLanes_3 : decode cX5_inLanes 3 = .ok (.istore_n 2, 1) := by decide +kernel
theorem dX5_inLanes_4 : decode cX5_inLanes 4 = .ok (.iload_n 2, 1) := by decide +kernel
theorem dX5_inLanes_5 : decode cX5_inLanes 5 = .ok (.aload_n 0, 1) := by decide +kernel
theorem dX5_inLanes_6 : decode cX5_inLanes 6 = .ok (.getfield 70, 3) := by decide +kernel
theorem dX5_inLanes_9 : decode cX5_inLanes 9 = .ok (.if_icmp .ge 18, 3) := by decide +kernel
theorem dX5_inLanes_12 : decode cX5_inLanes 12 = .ok (.iload_n 1, 1) := by decide +kernel
theorem dX5_inLanes_13 : decode cX5_inLanes 13 = .ok (.aload_n 0, 1) := by decide +kernel
theorem dX5_inLanes_14 : decode cX5_inLanes 14 = .ok (.getfield 17, 3) := by decide +kernel
theorem dX5_inLanes_17 : decode cX5_inLanes 17 = .ok (.iload_n 2, 1) := by decide +kernel
theorem dX5_inLanes_18 : decode cX5_inLanes 18 = .ok (.iaload, 1) := by decide +kernel
theorem dX5_inLanes_19 : decode cX5_inLanes 19 = .ok (.iadd, 1) := by decide +kernel
theorem dX5_inLanes_20 : decode cX5_inLanes 20 = .ok (.istore_n 1, 1) := by decide +kernel
theorem dX5_inLanes_21 : decode cX5_inLanes 21 = .ok (.iinc 2 1, 3) := by decide +kernel
theorem dX5_inLanes_24 : decode cX5_inLanes 24 = .ok (.goto (-20), 3) := by decide +kernel
theorem dX5_inLanes_27 : decode cX5_inLanes 27 = .ok (.iload_n 1, 1) := by decide +kernel
theorem dX5_inLanes_28 : decode cX5_inLanes 28 = .ok (.ireturn, 1) := by decide +kernel
theorem dX5_punctual_0 : decode cX5_punctual 0 = .ok (.aload_n 0, 1) := by decide +kernel
theorem dX5_punctual_1 : decode cX5_punctual 1 = .ok (.getfield 42, 3) := by decide +kernel
theorem dX5_punctual_4 : decode cX5_punctual 4 = .ok (.iload_n 1, 1) := by decide +kernel
theorem dX5_punctual_5 : decode cX5_punctual 5 = .ok (.iaload, 1) := by decide +kernel
theorem dX5_punctual_6 : decode cX5_punctual 6 = .ok (.aload_n 0, 1) := by decide +kernel
theorem dX5_punctual_7 : decode cX5_punctual 7 = .ok (.getfield 30, 3) := by decide +kernel
theorem dX5_punctual_10 : decode cX5_punctual 10 = .ok (.iload_n 1, 1) := by decide +kernel
theorem dX5_punctual_11 : decode cX5_punctual 11 = .ok (.iaload, 1) := by decide +kernel
theorem dX5_punctual_12 : decode cX5_punctual 12 = .ok (.aload_n 0, 1) := by decide +kernel
theorem dX5_punctual_13 : decode cX5_punctual 13 = .ok (.getfield 51, 3) := by decide +kernel
theorem dX5_punctual_16 : decode cX5_punctual 16 = .ok (.isub, 1) := by decide +kernel
theorem dX5_punctual_17 : decode cX5_punctual 17 = .ok (.if_icmp .ge 8, 3) := by decide +kernel
theorem dX5_punctual_20 : decode cX5_punctual 20 = .ok (.bipush 101, 2) := by decide +kernel
theorem dX5_punctual_22 : decode cX5_punctual 22 = .ok (.goto 30, 3) := by decide +kernel
theorem dX5_punctual_25 : decode cX5_punctual 25 = .ok (.aload_n 0, 1) := by decide +kernel
theorem dX5_punctual_26 : decode cX5_punctual 26 = .ok (.getfield 42, 3) := by decide +kernel
theorem dX5_punctual_29 : decode cX5_punctual 29 = .ok (.iload_n 1, 1) := by decide +kernel
theorem dX5_punctual_30 : decode cX5_punctual 30 = .ok (.iaload, 1) := by decide +kernel
theorem dX5_punctual_31 : decode cX5_punctual 31 = .ok (.aload_n 0, 1) := by decide +kernel
theorem dX5_punctual_32 : decode cX5_punctual 32 = .ok (.getfield 30, 3) := by decide +kernel
theorem dX5_punctual_35 : decode cX5_punctual 35 = .ok (.iload_n 1, 1) := by decide +kernel
theorem dX5_punctual_36 : decode cX5_punctual 36 = .ok (.iaload, 1) := by decide +kernel
theorem dX5_punctual_37 : decode cX5_punctual 37 = .ok (.aload_n 0, 1) := by decide +kernel
theorem dX5_punctual_38 : decode cX5_punctual 38 = .ok (.getfield 51, 3) := by decide +kernel
theorem dX5_punctual_41 : decode cX5_punctual 41 = .ok (.iadd, 1) := by decide +kernel
theorem dX5_punctual_42 : decode cX5_punctual 42 = .ok (.if_icmp .le 8, 3) := by decide +kernel
theorem dX5_punctual_45 : decode cX5_punctual 45 = .ok (.bipush 108, 2) := by decide +kernel
theorem dX5_punctual_47 : decode cX5_punctual 47 = .ok (.goto 5, 3) := by decide +kernel
theorem dX5_punctual_50 : decode cX5_punctual 50 = .ok (.bipush 111, 2) := by decide +kernel
theorem dX5_punctual_52 : decode cX5_punctual 52 = .ok (.ireturn, 1) := by decide +kernel
set_option maxRecDepth 20000 in
theorem ggX5_arrive_X5_isNone : GoodIn wsX5_arrive wsX5_isNone := goodIn_r _ [8, 9, 10, 11, 7, 12, 46, 47, 48, 49, 50, 51, 52, 53, 54, 55, 56, 57, 58, 59, 60, 61, 62, 63, 64, 65, 66, 67, 68, 69, 70] (by decide +kernel) (by decide +kernel)
set_option maxRecDepth 20000 in
theorem gX5_arrive_X5_isNone : GoodIn wsX5_arrive (wsV RX5 90 RX5 yX5_isNone wsX5_isNone) := goodIn_app (goodIn_of _ (by decide +kernel)) ggX5_arrive_X5_isNone
set_option maxRecDepth 20000 in
theorem ggX5_arrive_X5_isNoLane : GoodIn wsX5_arrive wsX5_isNoLane := goodIn_r _ [16, 17, 10, 11, 7, 12, 46, 47, 48, 49, 50, 51, 52, 53, 54, 55, 56, 57, 58, 59, 60, 61, 62, 63, 64, 65, 66, 67, 68, 69, 70] (by decide +kernel) (by decide +kernel)
set_option maxRecDepth 20000 in
theorem gX5_arrive_X5_isNoLane : GoodIn wsX5_arrive (wsV RX5 93 RX5 yX5_isNoLane wsX5_isNoLane) := goodIn_app (goodIn_of _ (by decide +kernel)) ggX5_arrive_X5_isNoLane
set_option maxRecDepth 20000 in
theorem ggX5_arrive_X5_inLanes : GoodIn wsX5_arrive wsX5_inLanes := goodIn_ca (goodIn_r _ [21, 17, 22, 46, 47, 48, 49, 50, 51, 52, 53, 54, 55, 56, 57, 58, 59, 60, 61, 62, 63, 64, 65, 66, 67, 68, 69, 70] (by decide +kernel) (by decide +kernel)) (goodIn_sub (fun _ h => List.mem_cons_of_mem _ (List.mem_append_right _ h)) (by decide +kernel))
set_option maxRecDepth 20000 in
theorem gX5_arrive_X5_inLanes : GoodIn wsX5_arrive (wsV RX5 96 RX5 yX5_inLanes wsX5_inLanes) := goodIn_app (goodIn_of _ (by decide +kernel)) ggX5_arrive_X5_inLanes
set_option maxRecDepth 20000 in
theorem ggX5_arrive_X5_canCome : GoodIn wsX5_arrive wsX5_canCome := goodIn_ca (goodIn_r _ [26, 22, 27, 28, 29, 46, 47, 48, 49, 50, 51, 52, 53, 54, 55, 56, 57, 58, 59, 60, 61, 62, 63, 64, 65, 66, 67, 68, 69, 70] (by decide +kernel) (by decide +kernel)) (goodIn_sub (fun _ h => List.mem_cons_of_mem _ (List.mem_append_right _ h)) (by decide +kernel))
set_option maxRecDepth 20000 in
theorem gX5_arrive_X5_canCome : GoodIn wsX5_arrive (wsV RX5 100 RX5 yX5_canCome wsX5_canCome) := goodIn_app (goodIn_of _ (by decide +kernel)) ggX5_arrive_X5_canCome
set_option maxRecDepth 20000 in
theorem ggX5_arrive_X5_fails : GoodIn wsX5_arrive wsX5_fails := goodIn_r _ [33, 34, 46, 47, 48, 49, 50, 51, 52, 53, 54, 55, 56, 57, 58, 59, 60, 61, 62, 63, 64, 65, 66, 67, 68, 69, 70] (by decide +kernel) (by decide +kernel)
set_option maxRecDepth 20000 in
theorem gX5_arrive_X5_fails : GoodIn wsX5_arrive (wsV RX5 80 RX5 yX5_fails wsX5_fails) := goodIn_app (goodIn_of _ (by decide +kernel)) ggX5_arrive_X5_fails
set_option maxRecDepth 20000 in
theorem ggX5_arrive_X5_comes : GoodIn wsX5_arrive wsX5_comes := goodIn_ca (goodIn_r _ [38, 39, 22, 46, 47, 48, 49, 50, 51, 52, 53, 54, 55, 56, 57, 58, 59, 60, 61, 62, 63, 64, 65, 66, 67, 68, 69, 70] (by decide +kernel) (by decide +kernel)) (goodIn_sub (fun _ h => List.mem_cons_of_mem _ (List.mem_append_right _ h)) (by decide +kernel))
set_option maxRecDepth 20000 in
theorem gX5_arrive_X5_comes : GoodIn wsX5_arrive (wsV RX5 104 RX5 yX5_comes wsX5_comes) := goodIn_app (goodIn_of _ (by decide +kernel)) ggX5_arrive_X5_comes
set_option maxRecDepth 20000 in
theorem ggX5_arrive_X5_punctual : GoodIn wsX5_arrive wsX5_punctual := goodIn_ca (goodIn_r _ [43, 2, 44, 45, 46, 47, 48, 49, 50, 51, 52, 53, 54, 55, 56, 57, 58, 59, 60, 61, 62, 63, 64, 65, 66, 67, 68, 69, 70] (by decide +kernel) (by decide +kernel)) (goodIn_sub (fun _ h => List.mem_cons_of_mem _ (List.mem_append_right _ h)) (by decide +kernel))
set_option maxRecDepth 20000 in
theorem gX5_arrive_X5_punctual : GoodIn wsX5_arrive (wsV RX5 108 RX5 yX5_punctual wsX5_punctual) := goodIn_app (goodIn_of _ (by decide +kernel)) ggX5_arrive_X5_punctual
theorem dX5_arrive_0 : decode cX5_arrive 0 = .ok (.aload_n 0, 1) := by decide +kernel
theorem dX5_arrive_1 : decode cX5_arrive 1 = .ok (.aload_n 0, 1) := by decide +kernel
theorem dX5_arrive_2 : decode cX5_arrive 2 = .ok (.iload_n 1, 1) := by decide +kernel
theorem dX5_arrive_3 : decode cX5_arrive 3 = .ok (.invokevirtual 90, 3) := by decide +kernel
theorem dX5_arrive_6 : decode cX5_arrive 6 = .ok (.ifCond .eq 7, 3) := by decide +kernel
theorem dX5_arrive_9 : decode cX5_arrive 9 = .ok (.iconst 1, 1) := by decide +kernel
theorem dX5_arrive_10 : decode cX5_arrive 10 = .ok (.goto 53, 3) := by decide +kernel
theorem dX5_arrive_13 : decode cX5_arrive 13 = .ok (.aload_n 0, 1) := by decide +kernel
theorem dX5_arrive_14 : decode cX5_arrive 14 = .ok (.iload_n 2, 1) := by decide +kernel
theorem dX5_arrive_15 : decode cX5_arrive 15 = .ok (.invokevirtual 93, 3) := by decide +kernel
theorem dX5_arrive_18 : decode cX5_arrive 18 = .ok (.ifCond .eq 7, 3) := by decide +kernel
theorem dX5_arrive_21 : decode cX5_arrive 21 = .ok (.iconst 2, 1) := by decide +kernel
theorem dX5_arrive_22 : decode cX5_arrive 22 = .ok (.goto 41, 3) := by decide +kernel
theorem dX5_arrive_25 : decode cX5_arrive 25 = .ok (.aload_n 0, 1) := by decide +kernel
theorem dX5_arrive_26 : decode cX5_arrive 26 = .ok (.getfield 39, 3) := by decide +kernel
theorem dX5_arrive_29 : decode cX5_arrive 29 = .ok (.iload_n 1, 1) := by decide +kernel
theorem dX5_arrive_30 : decode cX5_arrive 30 = .ok (.caload, 1) := by decide +kernel
theorem dX5_arrive_31 : decode cX5_arrive 31 = .ok (.bipush 98, 2) := by decide +kernel
theorem dX5_arrive_33 : decode cX5_arrive 33 = .ok (.if_icmp .ne 12, 3) := by decide +kernel
theorem dX5_arrive_36 : decode cX5_arrive 36 = .ok (.aload_n 0, 1) := by decide +kernel
theorem dX5_arrive_37 : decode cX5_arrive 37 = .ok (.invokevirtual 96, 3) := by decide +kernel
theorem dX5_arrive_40 : decode cX5_arrive 40 = .ok (.bipush 6, 2) := by decide +kernel
theorem dX5_arrive_42 : decode cX5_arrive 42 = .ok (.if_icmp .ne 7, 3) := by decide +kernel
theorem dX5_arrive_45 : decode cX5_arrive 45 = .ok (.iconst 3, 1) := by decide +kernel
theorem dX5_arrive_46 : decode cX5_arrive 46 = .ok (.goto 17, 3) := by decide +kernel
theorem dX5_arrive_49 : decode cX5_arrive 49 = .ok (.aload_n 0, 1) := by decide +kernel
theorem dX5_arrive_50 : decode cX5_arrive 50 = .ok (.iload_n 1, 1) := by decide +kernel
theorem dX5_arrive_51 : decode cX5_arrive 51 = .ok (.iload_n 2, 1) := by decide +kernel
theorem dX5_arrive_52 : decode cX5_arrive 52 = .ok (.invokevirtual 100, 3) := by decide +kernel
theorem dX5_arrive_55 : decode cX5_arrive 55 = .ok (.ifCond .eq 7, 3) := by decide +kernel
theorem dX5_arrive_58 : decode cX5_arrive 58 = .ok (.iconst 0, 1) := by decide +kernel
theorem dX5_arrive_59 : decode cX5_arrive 59 = .ok (.goto 4, 3) := by decide +kernel
theorem dX5_arrive_62 : decode cX5_arrive 62 = .ok (.iconst 4, 1) := by decide +kernel
theorem dX5_arrive_63 : decode cX5_arrive 63 = .ok (.invokevirtual 80, 3) := by decide +kernel
theorem dX5_arrive_66 : decode cX5_arrive 66 = .ok (.ifCond .eq 6, 3) := by decide +kernel
theorem dX5_arrive_69 : decode cX5_arrive 69 = .ok (.bipush 97, 2) := by decide +kernel
theorem dX5_arrive_71 : decode cX5_arrive 71 = .ok (.ireturn, 1) := by decide +kernel
theorem dX5_arrive_72 : decode cX5_arrive 72 = .ok (.aload_n 0, 1) := by decide +kernel
theorem dX5_arrive_73 : decode cX5_arrive 73 = .ok (.getfield 39, 3) := by decide +kernel
theorem dX5_arrive_76 : decode cX5_arrive 76 = .ok (.iload_n 1, 1) := by decide +kernel
theorem dX5_arrive_77 : decode cX5_arrive 77 = .ok (.bipush 121, 2) := by decide +kernel
theorem dX5_arrive_79 : decode cX5_arrive 79 = .ok (.castore, 1) := by decide +kernel
theorem dX5_arrive_80 : decode cX5_arrive 80 = .ok (.aload_n 0, 1) := by decide +kernel
theorem dX5_arrive_81 : decode cX5_arrive 81 = .ok (.getfield 42, 3) := by decide +kernel
theorem dX5_arrive_84 : decode cX5_arrive 84 = .ok (.iload_n 1, 1) := by decide +kernel
theorem dX5_arrive_85 : decode cX5_arrive 85 = .ok (.aload_n 0, 1) := by decide +kernel
theorem dX5_arrive_86 : decode cX5_arrive 86 = .ok (.getfield 87, 3) := by decide +kernel
theorem dX5_arrive_89 : decode cX5_arrive 89 = .ok (.iastore, 1) := by decide +kernel
theorem dX5_arrive_90 : decode cX5_arrive 90 = .ok (.aload_n 0, 1) := by decide +kernel
theorem dX5_arrive_91 : decode cX5_arrive 91 = .ok (.iload_n 1, 1) := by decide +kernel
theorem dX5_arrive_92 : decode cX5_arrive 92 = .ok (.iload_n 2, 1) := by decide +kernel
theorem dX5_arrive_93 : decode cX5_arrive 93 = .ok (.invokevirtual 104, 3) := by decide +kernel
theorem dX5_arrive_96 : decode cX5_arrive 96 = .ok (.aload_n 0, 1) := by decide +kernel
theorem dX5_arrive_97 : decode cX5_arrive 97 = .ok (.iload_n 1, 1) := by decide +kernel
theorem dX5_arrive_98 : decode cX5_arrive 98 = .ok (.invokevirtual 108, 3) := by decide +kernel
theorem dX5_arrive_101 : decode cX5_arrive 101 = .ok (.ireturn, 1) := by decide +kernel
set_option maxRecDepth 20000 in
theorem ggX5_state_X5_isNone : GoodIn wsX5_state wsX5_isNone := goodIn_r _ [6, 7, 8, 9, 5, 10, 16, 17, 18, 19, 20, 21, 22, 23, 24, 25, 26, 27, 28, 29, 30, 31, 32, 33, 34, 35, 36, 37, 38, 39, 40] (by decide +kernel) (by decide +kernel)
set_option maxRecDepth 20000 in
theorem gX5_state_X5_isNone : GoodIn wsX5_state (wsV RX5 90 RX5 yX5_isNone wsX5_isNone) := goodIn_app (goodIn_of _ (by decide +kernel)) ggX5_state_X5_isNone
set_option maxRecDepth 20000 in
theorem ggX5_state_X5_fails : GoodIn wsX5_state wsX5_fails := goodIn_r _ [14, 15, 16, 17, 18, 19, 20, 21, 22, 23, 24, 25, 26, 27, 28, 29, 30, 31, 32, 33, 34, 35, 36, 37, 38, 39, 40] (by decide +kernel) (by decide +kernel)
set_option maxRecDepth 20000 in
theorem gX5_state_X5_fails : GoodIn wsX5_state (wsV RX5 80 RX5 yX5_fails wsX5_fails) := goodIn_app (goodIn_of _ (by decide +kernel)) ggX5_state_X5_fails
theorem dX5_state_0 : decode cX5_state 0 = .ok (.aload_n 0, 1) := by decide +kernel
theorem dX5_state_1 : decode cX5_state 1 = .ok (.aload_n 0, 1) := by decide +kernel
theorem dX5_state_2 : decode cX5_state 2 = .ok (.iload_n 1, 1) := by decide +kernel
theorem dX5_state_3 : decode cX5_state 3 = .ok (.invokevirtual 90, 3) := by decide +kernel
theorem dX5_state_6 : decode cX5_state 6 = .ok (.ifCond .eq 7, 3) := by decide +kernel
theorem dX5_state_9 : decode cX5_state 9 = .ok (.iconst 1, 1) := by decide +kernel
theorem dX5_state_10 : decode cX5_state 10 = .ok (.goto 4, 3) := by decide +kernel
theorem dX5_state_13 : decode cX5_state 13 = .ok (.iconst 0, 1) := by decide +kernel
theorem dX5_state_14 : decode cX5_state 14 = .ok (.invokevirtual 80, 3) := by decide +kernel
theorem dX5_state_17 : decode cX5_state 17 = .ok (.ifCond .eq 8, 3) := by decide +kernel
theorem dX5_state_20 : decode cX5_state 20 = .ok (.bipush 97, 2) := by decide +kernel
theorem dX5_state_22 : decode cX5_state 22 = .ok (.goto 9, 3) := by decide +kernel
theorem dX5_state_25 : decode cX5_state 25 = .ok (.aload_n 0, 1) := by decide +kernel
theorem dX5_state_26 : decode cX5_state 26 = .ok (.getfield 39, 3) := by decide +kernel
theorem dX5_state_29 : decode cX5_state 29 = .ok (.iload_n 1, 1) := by decide +kernel
theorem dX5_state_30 : decode cX5_state 30 = .ok (.caload, 1) := by decide +kernel
theorem dX5_state_31 : decode cX5_state 31 = .ok (.ireturn, 1) := by decide +kernel
set_option maxRecDepth 20000 in
theorem ggX5_hasNotCome_X5_isNone : GoodIn wsX5_hasNotCome wsX5_isNone := goodIn_r _ [6, 7, 8, 9, 5, 10, 16, 17, 18, 19, 20, 21, 22, 23, 24, 25, 26, 27, 28, 29, 30, 31, 32, 33, 34, 35, 36, 37, 38, 39, 40] (by decide +kernel) (by decide +kernel)
set_option maxRecDepth 20000 in
theorem gX5_hasNotCome_X5_isNone : GoodIn wsX5_hasNotCome (wsV RX5 90 RX5 yX5_isNone wsX5_isNone) := goodIn_app (goodIn_of _ (by decide +kernel)) ggX5_hasNotCome_X5_isNone
set_option maxRecDepth 20000 in
theorem ggX5_hasNotCome_X5_fails : GoodIn wsX5_hasNotCome wsX5_fails := goodIn_r _ [14, 15, 16, 17, 18, 19, 20, 21, 22, 23, 24, 25, 26, 27, 28, 29, 30, 31, 32, 33, 34, 35, 36, 37, 38, 39, 40] (by decide +kernel) (by decide +kernel)
set_option maxRecDepth 20000 in
theorem gX5_hasNotCome_X5_fails : GoodIn wsX5_hasNotCome (wsV RX5 80 RX5 yX5_fails wsX5_fails) := goodIn_app (goodIn_of _ (by decide +kernel)) ggX5_hasNotCome_X5_fails
theorem dX5_hasNotCome_0 : decode cX5_hasNotCome 0 = .ok (.aload_n 0, 1) := by decide +kernel
theorem dX5_hasNotCome_1 : decode cX5_hasNotCome 1 = .ok (.aload_n 0, 1) := by decide +kernel
theorem dX5_hasNotCome_2 : decode cX5_hasNotCome 2 = .ok (.iload_n 1, 1) := by decide +kernel
theorem dX5_hasNotCome_3 : decode cX5_hasNotCome 3 = .ok (.invokevirtual 90, 3) := by decide +kernel
theorem dX5_hasNotCome_6 : decode cX5_hasNotCome 6 = .ok (.ifCond .eq 7, 3) := by decide +kernel
theorem dX5_hasNotCome_9 : decode cX5_hasNotCome 9 = .ok (.iconst 1, 1) := by decide +kernel
theorem dX5_hasNotCome_10 : decode cX5_hasNotCome 10 = .ok (.goto 30, 3) := by decide +kernel
theorem dX5_hasNotCome_13 : decode cX5_hasNotCome 13 = .ok (.aload_n 0, 1) := by decide +kernel
theorem dX5_hasNotCome_14 : decode cX5_hasNotCome 14 = .ok (.getfield 39, 3) := by decide +kernel
theorem dX5_hasNotCome_17 : decode cX5_hasNotCome 17 = .ok (.iload_n 1, 1) := by decide +kernel
theorem dX5_hasNotCome_18 : decode cX5_hasNotCome 18 = .ok (.caload, 1) := by decide +kernel
theorem dX5_hasNotCome_19 : decode cX5_hasNotCome 19 = .ok (.bipush 98, 2) := by decide +kernel
theorem dX5_hasNotCome_21 : decode cX5_hasNotCome 21 = .ok (.if_icmp .eq 14, 3) := by decide +kernel
theorem dX5_hasNotCome_24 : decode cX5_hasNotCome 24 = .ok (.aload_n 0, 1) := by decide +kernel
theorem dX5_hasNotCome_25 : decode cX5_hasNotCome 25 = .ok (.getfield 39, 3) := by decide +kernel
theorem dX5_hasNotCome_28 : decode cX5_hasNotCome 28 = .ok (.iload_n 1, 1) := by decide +kernel
theorem dX5_hasNotCome_29 : decode cX5_hasNotCome 29 = .ok (.caload, 1) := by decide +kernel
theorem dX5_hasNotCome_30 : decode cX5_hasNotCome 30 = .ok (.bipush 110, 2) := by decide +kernel
theorem dX5_hasNotCome_32 : decode cX5_hasNotCome 32 = .ok (.if_icmp .ne 7, 3) := by decide +kernel
theorem dX5_hasNotCome_35 : decode cX5_hasNotCome 35 = .ok (.iconst 2, 1) := by decide +kernel
theorem dX5_hasNotCome_36 : decode cX5_hasNotCome 36 = .ok (.goto 4, 3) := by decide +kernel
theorem dX5_hasNotCome_39 : decode cX5_hasNotCome 39 = .ok (.iconst 0, 1) := by decide +kernel
theorem dX5_hasNotCome_40 : decode cX5_hasNotCome 40 = .ok (.invokevirtual 80, 3) := by decide +kernel
theorem dX5_hasNotCome_43 : decode cX5_hasNotCome 43 = .ok (.ireturn, 1) := by decide +kernel
set_option maxRecDepth 20000 in
theorem ggX5_punctuality_X5_hasNotCome : GoodIn wsX5_punctuality wsX5_hasNotCome := goodIn_ca (goodIn_r _ [5, 6, 7, 8, 9, 4, 10, 11, 12, 13, 14, 15, 16, 17, 18, 19, 27, 28, 29, 30, 31, 32, 33, 34, 35, 36, 37, 38, 39, 40, 41, 42, 43, 44, 45, 46, 47, 48, 49, 50, 51] (by decide +kernel) (by decide +kernel)) (goodIn_sub (fun _ h => List.mem_cons_of_mem _ (List.mem_append_right _ h)) (by decide +kernel))
set_option maxRecDepth 20000 in
theorem gX5_punctuality_X5_hasNotCome : GoodIn wsX5_punctuality (wsV RX5 112 RX5 yX5_hasNotCome wsX5_hasNotCome) := goodIn_app (goodIn_of _ (by decide +kernel)) ggX5_punctuality_X5_hasNotCome
set_option maxRecDepth 20000 in
theorem ggX5_punctuality_X5_punctual : GoodIn wsX5_punctuality wsX5_punctual := goodIn_ca (goodIn_r _ [23, 24, 25, 26, 27, 28, 29, 30, 31, 32, 33, 34, 35, 36, 37, 38, 39, 40, 41, 42, 43, 44, 45, 46, 47, 48, 49, 50, 51] (by decide +kernel) (by decide +kernel)) (goodIn_sub (fun _ h => List.mem_cons_of_mem _ (List.mem_append_right _ h)) (by decide +kernel))
set_option maxRecDepth 20000 in
theorem gX5_punctuality_X5_punctual : GoodIn wsX5_punctuality (wsV RX5 108 RX5 yX5_punctual wsX5_punctual) := goodIn_app (goodIn_of _ (by decide +kernel)) ggX5_punctuality_X5_punctual
theorem dX5_punctuality_0 : decode cX5_punctuality 0 = .ok (.aload_n 0, 1) := by decide +kernel
theorem dX5_punctuality_1 : decode cX5_punctuality 1 = .ok (.iload_n 1, 1) := by decide +kernel
theorem dX5_punctuality_2 : decode cX5_punctuality 2 = .ok (.invokevirtual 112, 3) := by decide +kernel
theorem dX5_punctuality_5 : decode cX5_punctuality 5 = .ok (.ifCond .eq 8, 3) := by decide +kernel
theorem dX5_punctuality_8 : decode cX5_punctuality 8 = .ok (.bipush 97, 2) := by decide +kernel
theorem dX5_punctuality_10 : decode cX5_punctuality 10 = .ok (.goto 8, 3) := by decide +kernel
theorem dX5_punctuality_13 : decode cX5_punctuality 13 = .ok (.aload_n 0, 1) := by decide +kernel
theorem dX5_punctuality_14 : decode cX5_punctuality 14 = .ok (.iload_n 1, 1) := by decide +kernel
theorem dX5_punctuality_15 : decode cX5_punctuality 15 = .ok (.invokevirtual 108, 3) := by decide +kernel
theorem dX5_punctuality_18 : decode cX5_punctuality 18 = .ok (.ireturn, 1) := by decide +kernel
set_option maxRecDepth 20000 in
theorem ggX5_nextBooked_X5_fails : GoodIn wsX5_nextBooked wsX5_fails := goodIn_r _ [8, 9, 10, 11, 12, 13, 14, 15, 16, 17, 18, 19, 20, 21, 22, 23, 24, 25, 26, 27, 28, 29, 30, 31, 32, 33, 34] (by decide +kernel) (by decide +kernel)
set_option maxRecDepth 20000 in
theorem gX5_nextBooked_X5_fails : GoodIn wsX5_nextBooked (wsV RX5 80 RX5 yX5_fails wsX5_fails) := goodIn_app (goodIn_of _ (by decide +kernel)) ggX5_nextBooked_X5_fails
theorem dX5_nextBooked_0 : decode cX5_nextBooked 0 = .ok (.iconst (-1), 1) := by decide +kernel
theorem dX5_nextBooked_1 : decode cX5_nextBooked 1 = .ok (.istore_n 1, 1) := by decide +kernel
theorem dX5_nextBooked_2 : decode cX5_nextBooked 2 = .ok (.iconst 0, 1) := by decide +kernel
theorem dX5_nextBooked_3 : decode cX5_nextBooked 3 = .ok (.istore_n 2, 1) := by decide +kernel
theorem dX5_nextBooked_4 : decode cX5_nextBooked 4 = .ok (.iload_n 2, 1) := by decide +kernel
theorem dX5_nextBooked_5 : decode cX5_nextBooked 5 = .ok (.aload_n 0, 1) := by decide +kernel
theorem dX5_nextBooked_6 : decode cX5_nextBooked 6 = .ok (.getfield 77, 3) := by decide +kernel
theorem dX5_nextBooked_9 : decode cX5_nextBooked 9 = .ok (.if_icmp .ge 41, 3) := by decide +kernel
theorem dX5_nextBooked_12 : decode cX5_nextBooked 12 = .ok (.aload_n 0, 1) := by decide +kernel
theorem dX5_nextBooked_13 : decode cX5_nextBooked 13 = .ok (.getfield 39, 3) := by decide +kernel
theorem dX5_nextBooked_16 : decode cX5_nextBooked 16 = .ok (.iload_n 2, 1) := by decide +kernel
theorem dX5_nextBooked_17 : decode cX5_nextBooked 17 = .ok (.caload, 1) := by decide +kernel
theorem dX5_nextBooked_18 : decode cX5_nextBooked 18 = .ok (.bipush 98, 2) := by decide +kernel
theorem dX5_nextBooked_20 : decode cX5_nextBooked 20 = .ok (.if_icmp .ne 24, 3) := by decide +kernel
theorem dX5_nextBooked_23 : decode cX5_nextBooked 23 = .ok (.iload_n 1, 1) := by decide +kernel
theorem dX5_nextBooked_24 : decode cX5_nextBooked 24 = .ok (.ifCond .lt 18, 3) := by decide +kernel
theorem dX5_nextBooked_27 : decode cX5_nextBooked 27 = .ok (.aload_n 0, 1) := by decide +kernel
theorem dX5_nextBooked_28 : decode cX5_nextBooked 28 = .ok (.getfield 30, 3) := by decide +kernel
theorem dX5_nextBooked_31 : decode cX5_nextBooked 31 = .ok (.iload_n 2, 1) := by decide +kernel
theorem dX5_nextBooked_32 : decode cX5_nextBooked 32 = .ok (.iaload, 1) := by decide +kernel
theorem dX5_nextBooked_33 : decode cX5_nextBooked 33 = .ok (.aload_n 0, 1) := by decide +kernel
theorem dX5_nextBooked_34 : decode cX5_nextBooked 34 = .ok (.getfield 30, 3) := by decide +kernel
theorem dX5_nextBooked_37 : decode cX5_nextBooked 37 = .ok (.iload_n 1, 1) := by decide +kernel
theorem dX5_nextBooked_38 : decode cX5_nextBooked 38 = .ok (.iaload, 1) := by decide +kernel
theorem dX5_nextBooked_39 : decode cX5_nextBooked 39 = .ok (.if_icmp .ge 5, 3) := by decide +kernel
theorem dX5_nextBooked_42 : decode cX5_nextBooked 42 = .ok (.iload_n 2, 1) := by decide +kernel
theorem dX5_nextBooked_43 : decode cX5_nextBooked 43 = .ok (.istore_n 1, 1) := by decide +kernel
theorem dX5_nextBooked_44 : decode cX5_nextBooked 44 = .ok (.iinc 2 1, 3) := by decide +kernel
theorem dX5_nextBooked_47 : decode cX5_nextBooked 47 = .ok (.goto (-43), 3) := by decide +kernel
theorem dX5_nextBooked_50 : decode cX5_nextBooked 50 = .ok (.aload_n 0, 1) := by decide +kernel
theorem dX5_nextBooked_51 : decode cX5_nextBooked 51 = .ok (.iload_n 1, 1) := by decide +kernel
theorem dX5_nextBooked_52 : decode cX5_nextBooked 52 = .ok (.ifCond .ge 7, 3) := by decide +kernel
theorem dX5_nextBooked_55 : decode cX5_nextBooked 55 = .ok (.iconst 1, 1) := by decide +kernel
theorem dX5_nextBooked_56 : decode cX5_nextBooked 56 = .ok (.goto 4, 3) := by decide +kernel
theorem dX5_nextBooked_59 : decode cX5_nextBooked 59 = .ok (.iconst 0, 1) := by decide +kernel
theorem dX5_nextBooked_60 : decode cX5_nextBooked 60 = .ok (.invokevirtual 80, 3) := by decide +kernel
theorem dX5_nextBooked_63 : decode cX5_nextBooked 63 = .ok (.ifCond .eq 7, 3) := by decide +kernel
theorem dX5_nextBooked_66 : decode cX5_nextBooked 66 = .ok (.iconst 0, 1) := by decide +kernel
theorem dX5_nextBooked_67 : decode cX5_nextBooked 67 = .ok (.goto 4, 3) := by decide +kernel
theorem dX5_nextBooked_70 : decode cX5_nextBooked 70 = .ok (.iload_n 1, 1) := by decide +kernel
theorem dX5_nextBooked_71 : decode cX5_nextBooked 71 = .ok (.ireturn, 1) := by decide +kernel
theorem dX5_slotOf_0 : decode cX5_slotOf 0 = .ok (.iconst 0, 1) := by decide +kernel
theorem dX5_slotOf_1 : decode cX5_slotOf 1 = .ok (.istore_n 2, 1) := by decide +kernel
theorem dX5_slotOf_2 : decode cX5_slotOf 2 = .ok (.iload_n 2, 1) := by decide +kernel
theorem dX5_slotOf_3 : decode cX5_slotOf 3 = .ok (.aload_n 0, 1) := by decide +kernel
theorem dX5_slotOf_4 : decode cX5_slotOf 4 = .ok (.getfield 70, 3) := by decide +kernel
theorem dX5_slotOf_7 : decode cX5_slotOf 7 = .ok (.if_icmp .ge 47, 3) := by decide +kernel
theorem dX5_slotOf_10 : decode cX5_slotOf 10 = .ok (.iconst 0, 1) := by decide +kernel
theorem dX5_slotOf_11 : decode cX5_slotOf 11 = .ok (.istore_n 3, 1) := by decide +kernel
theorem dX5_slotOf_12 : decode cX5_slotOf 12 = .ok (.iload_n 3, 1) := by decide +kernel
theorem dX5_slotOf_13 : decode cX5_slotOf 13 = .ok (.aload_n 0, 1) := by decide +kernel
theorem dX5_slotOf_14 : decode cX5_slotOf 14 = .ok (.getfield 17, 3) := by decide +kernel
theorem dX5_slotOf_17 : decode cX5_slotOf 17 = .ok (.iload_n 2, 1) := by decide +kernel
theorem dX5_slotOf_18 : decode cX5_slotOf 18 = .ok (.iaload, 1) := by decide +kernel
theorem dX5_slotOf_19 : decode cX5_slotOf 19 = .ok (.if_icmp .ge 29, 3) := by decide +kernel
theorem dX5_slotOf_22 : decode cX5_slotOf 22 = .ok (.aload_n 0, 1) := by decide +kernel
theorem dX5_slotOf_23 : decode cX5_slotOf 23 = .ok (.getfield 20, 3) := by decide +kernel
theorem dX5_slotOf_26 : decode cX5_slotOf 26 = .ok (.iconst 3, 1) := by decide +kernel
theorem dX5_slotOf_27 : decode cX5_slotOf 27 = .ok (.iload_n 2, 1) := by decide +kernel
theorem dX5_slotOf_28 : decode cX5_slotOf 28 = .ok (.imul, 1) := by decide +kernel
theorem dX5_slotOf_29 : decode cX5_slotOf 29 = .ok (.iload_n 3, 1) := by decide +kernel
theorem dX5_slotOf_30 : decode cX5_slotOf 30 = .ok (.iadd, 1) := by decide +kernel
theorem dX5_slotOf_31 : decode cX5_slotOf 31 = .ok (.iaload, 1) := by decide +kernel
theorem dX5_slotOf_32 : decode cX5_slotOf 32 = .ok (.iload_n 1, 1) := by decide +kernel
theorem dX5_slotOf_33 : decode cX5_slotOf 33 = .ok (.if_icmp .ne 9, 3) := by decide +kernel
theorem dX5_slotOf_36 : decode cX5_slotOf 36 = .ok (.iconst 3, 1) := by decide +kernel
theorem dX5_slotOf_37 : decode cX5_slotOf 37 = .ok (.iload_n 2, 1) := by decide +kernel
theorem dX5_slotOf_38 : decode cX5_slotOf 38 = .ok (.imul, 1) := by decide +kernel
theorem dX5_slotOf_39 : decode cX5_slotOf 39 = .ok (.iload_n 3, 1) := by decide +kernel
theorem dX5_slotOf_40 : decode cX5_slotOf 40 = .ok (.iadd, 1) := by decide +kernel
theorem dX5_slotOf_41 : decode cX5_slotOf 41 = .ok (.ireturn, 1) := by decide +kernel
theorem dX5_slotOf_42 : decode cX5_slotOf 42 = .ok (.iinc 3 1, 3) := by decide +kernel
theorem dX5_slotOf_45 : decode cX5_slotOf 45 = .ok (.goto (-33), 3) := by decide +kernel
theorem dX5_slotOf_48 : decode cX5_slotOf 48 = .ok (.iinc 2 1, 3) := by decide +kernel
theorem dX5_slotOf_51 : decode cX5_slotOf 51 = .ok (.goto (-49), 3) := by decide +kernel
theorem dX5_slotOf_54 : decode cX5_slotOf 54 = .ok (.iconst (-1), 1) := by decide +kernel
theorem dX5_slotOf_55 : decode cX5_slotOf 55 = .ok (.ireturn, 1) := by decide +kernel
set_option maxRecDepth 20000 in
theorem ggX5_ahead_X5_slotOf : GoodIn wsX5_ahead wsX5_slotOf := goodIn_ca (goodIn_r _ [6, 7, 1, 8, 9, 10, 11, 12, 13, 14, 15, 16, 17, 18, 19, 20, 21, 22, 23, 24, 25, 26, 27, 28, 29, 30, 31, 32, 33] (by decide +kernel) (by decide +kernel)) (goodIn_sub (fun _ h => List.mem_cons_of_mem _ (List.mem_append_right _ h)) (by decide +kernel))
set_option maxRecDepth 20000 in
theorem gX5_ahead_X5_slotOf : GoodIn wsX5_ahead (wsV RX5 115 RX5 yX5_slotOf wsX5_slotOf) := goodIn_app (goodIn_of _ (by decide +kernel)) ggX5_ahead_X5_slotOf
theorem dX5_ahead_0 : decode cX5_ahead 0 = .ok (.aload_n 0, 1) := by decide +kernel
theorem dX5_ahead_1 : decode cX5_ahead 1 = .ok (.iload_n 1, 1) := by decide +kernel
theorem dX5_ahead_2 : decode cX5_ahead 2 = .ok (.invokevirtual 115, 3) := by decide +kernel
theorem dX5_ahead_5 : decode cX5_ahead 5 = .ok (.istore_n 2, 1) := by decide +kernel
theorem dX5_ahead_6 : decode cX5_ahead 6 = .ok (.aload_n 0, 1) := by decide +kernel
theorem dX5_ahead_7 : decode cX5_ahead 7 = .ok (.getfield 17, 3) := by decide +kernel
theorem dX5_ahead_10 : decode cX5_ahead 10 = .ok (.iload_n 2, 1) := by decide +kernel
theorem dX5_ahead_11 : decode cX5_ahead 11 = .ok (.iconst 3, 1) := by decide +kernel
theorem dX5_ahead_12 : decode cX5_ahead 12 = .ok (.idiv, 1) := by decide +kernel
theorem dX5_ahead_13 : decode cX5_ahead 13 = .ok (.iaload, 1) := by decide +kernel
theorem dX5_ahead_14 : decode cX5_ahead 14 = .ok (.iconst 1, 1) := by decide +kernel
theorem dX5_ahead_15 : decode cX5_ahead 15 = .ok (.isub, 1) := by decide +kernel
theorem dX5_ahead_16 : decode cX5_ahead 16 = .ok (.iload_n 2, 1) := by decide +kernel
theorem dX5_ahead_17 : decode cX5_ahead 17 = .ok (.iconst 3, 1) := by decide +kernel
theorem dX5_ahead_18 : decode cX5_ahead 18 = .ok (.irem, 1) := by decide +kernel
theorem dX5_ahead_19 : decode cX5_ahead 19 = .ok (.isub, 1) := by decide +kernel
theorem dX5_ahead_20 : decode cX5_ahead 20 = .ok (.ireturn, 1) := by decide +kernel
set_option maxRecDepth 20000 in
theorem ggX5_isReached_X5_slotOf : GoodIn wsX5_isReached wsX5_slotOf := goodIn_ca (goodIn_r _ [5, 6, 7, 8, 13, 14, 15, 16, 17, 18, 19, 20, 21, 22, 23, 24, 25, 26, 27, 28, 29, 30, 31, 32, 33, 34, 35, 36, 37] (by decide +kernel) (by decide +kernel)) (goodIn_sub (fun _ h => List.mem_cons_of_mem _ (List.mem_append_right _ h)) (by decide +kernel))
set_option maxRecDepth 20000 in
theorem gX5_isReached_X5_slotOf : GoodIn wsX5_isReached (wsV RX5 115 RX5 yX5_slotOf wsX5_slotOf) := goodIn_app (goodIn_of _ (by decide +kernel)) ggX5_isReached_X5_slotOf
set_option maxRecDepth 20000 in
theorem ggX5_isReached_X5_ahead : GoodIn wsX5_isReached wsX5_ahead := goodIn_ca (goodIn_r _ [12, 7, 1, 2, 3, 4, 5, 6, 8, 13, 14, 15, 16, 17, 18, 19, 20, 21, 22, 23, 24, 25, 26, 27, 28, 29, 30, 31, 32, 33, 34, 35, 36, 37] (by decide +kernel) (by decide +kernel)) (goodIn_sub (fun _ h => List.mem_cons_of_mem _ (List.mem_append_right _ h)) (by decide +kernel))
set_option maxRecDepth 20000 in
theorem gX5_isReached_X5_ahead : GoodIn wsX5_isReached (wsV RX5 119 RX5 yX5_ahead wsX5_ahead) := goodIn_app (goodIn_of _ (by decide +kernel)) ggX5_isReached_X5_ahead
theorem dX5_isReached_0 : decode cX5_isReached 0 = .ok (.aload_n 0, 1) := by decide +kernel
theorem dX5_isReached_1 : decode cX5_isReached 1 = .ok (.iload_n 1, 1) := by decide +kernel
theorem dX5_isReached_2 : decode cX5_isReached 2 = .ok (.invokevirtual 115, 3) := by decide +kernel
theorem dX5_isReached_5 : decode cX5_isReached 5 = .ok (.ifCond .lt 15, 3) := by decide +kernel
theorem dX5_isReached_8 : decode cX5_isReached 8 = .ok (.aload_n 0, 1) := by decide +kernel
theorem dX5_isReached_9 : decode cX5_isReached 9 = .ok (.iload_n 1, 1) := by decide +kernel
theorem dX5_isReached_10 : decode cX5_isReached 10 = .ok (.invokevirtual 119, 3) := by decide +kernel
theorem dX5_isReached_13 : decode cX5_isReached 13 = .ok (.ifCond .ne 7, 3) := by decide +kernel
theorem dX5_isReached_16 : decode cX5_isReached 16 = .ok (.iconst 1, 1) := by decide +kernel
theorem dX5_isReached_17 : decode cX5_isReached 17 = .ok (.goto 4, 3) := by decide +kernel
theorem dX5_isReached_20 : decode cX5_isReached 20 = .ok (.iconst 0, 1) := by decide +kernel
theorem dX5_isReached_21 : decode cX5_isReached 21 = .ok (.ireturn, 1) := by decide +kernel
set_option maxRecDepth 20000 in
theorem ggX5_shift_X5_isNone : GoodIn wsX5_shift wsX5_isNone := goodIn_r _ [7, 8, 9, 10, 6, 11, 46, 47, 48, 49, 50, 51, 52, 53, 54, 55, 56, 57, 58, 59, 60, 61, 62, 63, 64, 65, 66, 67, 68, 69, 70] (by decide +kernel) (by decide +kernel)
set_option maxRecDepth 20000 in
theorem gX5_shift_X5_isNone : GoodIn wsX5_shift (wsV RX5 90 RX5 yX5_isNone wsX5_isNone) := goodIn_app (goodIn_of _ (by decide +kernel)) ggX5_shift_X5_isNone
set_option maxRecDepth 20000 in
theorem ggX5_shift_X5_isNoLane : GoodIn wsX5_shift wsX5_isNoLane := goodIn_r _ [15, 16, 9, 10, 6, 11, 46, 47, 48, 49, 50, 51, 52, 53, 54, 55, 56, 57, 58, 59, 60, 61, 62, 63, 64, 65, 66, 67, 68, 69, 70] (by decide +kernel) (by decide +kernel)
set_option maxRecDepth 20000 in
theorem gX5_shift_X5_isNoLane : GoodIn wsX5_shift (wsV RX5 93 RX5 yX5_isNoLane wsX5_isNoLane) := goodIn_app (goodIn_of _ (by decide +kernel)) ggX5_shift_X5_isNoLane
set_option maxRecDepth 20000 in
theorem ggX5_shift_X5_isReached : GoodIn wsX5_shift wsX5_isReached := goodIn_ca (goodIn_r _ [20, 21, 22, 23, 6, 24, 16, 1, 25, 26, 27, 28, 29, 46, 47, 48, 49, 50, 51, 52, 53, 54, 55, 56, 57, 58, 59, 60, 61, 62, 63, 64, 65, 66, 67, 68, 69, 70] (by decide +kernel) (by decide +kernel)) (goodIn_sub (fun _ h => List.mem_cons_of_mem _ (List.mem_append_right _ h)) (by decide +kernel))
set_option maxRecDepth 20000 in
theorem gX5_shift_X5_isReached : GoodIn wsX5_shift (wsV RX5 122 RX5 yX5_isReached wsX5_isReached) := goodIn_app (goodIn_of _ (by decide +kernel)) ggX5_shift_X5_isReached
set_option maxRecDepth 20000 in
theorem ggX5_shift_X5_slotOf : GoodIn wsX5_shift wsX5_slotOf := goodIn_ca (goodIn_r _ [24, 16, 1, 25, 46, 47, 48, 49, 50, 51, 52, 53, 54, 55, 56, 57, 58, 59, 60, 61, 62, 63, 64, 65, 66, 67, 68, 69, 70] (by decide +kernel) (by decide +kernel)) (goodIn_sub (fun _ h => List.mem_cons_of_mem _ (List.mem_append_right _ h)) (by decide +kernel))
set_option maxRecDepth 20000 in
theorem gX5_shift_X5_slotOf : GoodIn wsX5_shift (wsV RX5 115 RX5 yX5_slotOf wsX5_slotOf) := goodIn_app (goodIn_of _ (by decide +kernel)) ggX5_shift_X5_slotOf
set_option maxRecDepth 20000 in
theorem ggX5_shift_X5_canCome : GoodIn wsX5_shift wsX5_canCome := goodIn_ca (goodIn_r _ [33, 1, 34, 35, 36, 46, 47, 48, 49, 50, 51, 52, 53, 54, 55, 56, 57, 58, 59, 60, 61, 62, 63, 64, 65, 66, 67, 68, 69, 70] (by decide +kernel) (by decide +kernel)) (goodIn_sub (fun _ h => List.mem_cons_of_mem _ (List.mem_append_right _ h)) (by decide +kernel))
set_option maxRecDepth 20000 in
theorem gX5_shift_X5_canCome : GoodIn wsX5_shift (wsV RX5 100 RX5 yX5_canCome wsX5_canCome) := goodIn_app (goodIn_of _ (by decide +kernel)) ggX5_shift_X5_canCome
set_option maxRecDepth 20000 in
theorem ggX5_shift_X5_fails : GoodIn wsX5_shift wsX5_fails := goodIn_r _ [40, 41, 46, 47, 48, 49, 50, 51, 52, 53, 54, 55, 56, 57, 58, 59, 60, 61, 62, 63, 64, 65, 66, 67, 68, 69, 70] (by decide +kernel) (by decide +kernel)
set_option maxRecDepth 20000 in
theorem gX5_shift_X5_fails : GoodIn wsX5_shift (wsV RX5 80 RX5 yX5_fails wsX5_fails) := goodIn_app (goodIn_of _ (by decide +kernel)) ggX5_shift_X5_fails
set_option maxRecDepth 20000 in
theorem ggX5_shift_X5_comes : GoodIn wsX5_shift wsX5_comes := goodIn_ca (goodIn_r _ [45, 25, 1, 46, 47, 48, 49, 50, 51, 52, 53, 54, 55, 56, 57, 58, 59, 60, 61, 62, 63, 64, 65, 66, 67, 68, 69, 70] (by decide +kernel) (by decide +kernel)) (goodIn_sub (fun _ h => List.mem_cons_of_mem _ (List.mem_append_right _ h)) (by decide +kernel))
set_option maxRecDepth 20000 in
theorem gX5_shift_X5_comes : GoodIn wsX5_shift (wsV RX5 104 RX5 yX5_comes wsX5_comes) := goodIn_app (goodIn_of _ (by decide +kernel)) ggX5_shift_X5_comes
theorem dX5_shift_0 : decode cX5_shift 0 = .ok (.aload_n 0, 1) := by decide +kernel
theorem dX5_shift_1 : decode cX5_shift 1 = .ok (.aload_n 0, 1) := by decide +kernel
theorem dX5_shift_2 : decode cX5_shift 2 = .ok (.iload_n 1, 1) := by decide +kernel
theorem dX5_shift_3 : decode cX5_shift 3 = .ok (.invokevirtual 90, 3) := by decide +kernel
theorem dX5_shift_6 : decode cX5_shift 6 = .ok (.ifCond .eq 7, 3) := by decide +kernel
theorem dX5_shift_9 : decode cX5_shift 9 = .ok (.iconst 1, 1) := by decide +kernel
theorem dX5_shift_10 : decode cX5_shift 10 = .ok (.goto 52, 3) := by decide +kernel
theorem dX5_shift_13 : decode cX5_shift 13 = .ok (.aload_n 0, 1) := by decide +kernel
theorem dX5_shift_14 : decode cX5_shift 14 = .ok (.iload_n 2, 1) := by decide +kernel
theorem dX5_shift_15 : decode cX5_shift 15 = .ok (.invokevirtual 93, 3) := by decide +kernel
theorem dX5_shift_18 : decode cX5_shift 18 = .ok (.ifCond .eq 7, 3) := by decide +kernel
theorem dX5_shift_21 : decode cX5_shift 21 = .ok (.iconst 2, 1) := by decide +kernel
theorem dX5_shift_22 : decode cX5_shift 22 = .ok (.goto 40, 3) := by decide +kernel
theorem dX5_shift_25 : decode cX5_shift 25 = .ok (.aload_n 0, 1) := by decide +kernel
theorem dX5_shift_26 : decode cX5_shift 26 = .ok (.iload_n 1, 1) := by decide +kernel
theorem dX5_shift_27 : decode cX5_shift 27 = .ok (.invokevirtual 122, 3) := by decide +kernel
theorem dX5_shift_30 : decode cX5_shift 30 = .ok (.ifCond .ne 7, 3) := by decide +kernel
theorem dX5_shift_33 : decode cX5_shift 33 = .ok (.iconst 3, 1) := by decide +kernel
theorem dX5_shift_34 : decode cX5_shift 34 = .ok (.goto 28, 3) := by decide +kernel
theorem dX5_shift_37 : decode cX5_shift 37 = .ok (.aload_n 0, 1) := by decide +kernel
theorem dX5_shift_38 : decode cX5_shift 38 = .ok (.iload_n 1, 1) := by decide +kernel
theorem dX5_shift_39 : decode cX5_shift 39 = .ok (.invokevirtual 115, 3) := by decide +kernel
theorem dX5_shift_42 : decode cX5_shift 42 = .ok (.iconst 3, 1) := by decide +kernel
theorem dX5_shift_43 : decode cX5_shift 43 = .ok (.idiv, 1) := by decide +kernel
theorem dX5_shift_44 : decode cX5_shift 44 = .ok (.iload_n 2, 1) := by decide +kernel
theorem dX5_shift_45 : decode cX5_shift 45 = .ok (.if_icmp .eq 12, 3) := by decide +kernel
theorem dX5_shift_48 : decode cX5_shift 48 = .ok (.aload_n 0, 1) := by decide +kernel
theorem dX5_shift_49 : decode cX5_shift 49 = .ok (.iload_n 1, 1) := by decide +kernel
theorem dX5_shift_50 : decode cX5_shift 50 = .ok (.iload_n 2, 1) := by decide +kernel
theorem dX5_shift_51 : decode cX5_shift 51 = .ok (.invokevirtual 100, 3) := by decide +kernel
theorem dX5_shift_54 : decode cX5_shift 54 = .ok (.ifCond .ne 7, 3) := by decide +kernel
theorem dX5_shift_57 : decode cX5_shift 57 = .ok (.iconst 4, 1) := by decide +kernel
theorem dX5_shift_58 : decode cX5_shift 58 = .ok (.goto 4, 3) := by decide +kernel
theorem dX5_shift_61 : decode cX5_shift 61 = .ok (.iconst 0, 1) := by decide +kernel
theorem dX5_shift_62 : decode cX5_shift 62 = .ok (.invokevirtual 80, 3) := by decide +kernel
theorem dX5_shift_65 : decode cX5_shift 65 = .ok (.ifCond .eq 5, 3) := by decide +kernel
theorem dX5_shift_68 : decode cX5_shift 68 = .ok (.iconst 0, 1) := by decide +kernel
theorem dX5_shift_69 : decode cX5_shift 69 = .ok (.ireturn, 1) := by decide +kernel
theorem dX5_shift_70 : decode cX5_shift 70 = .ok (.aload_n 0, 1) := by decide +kernel
theorem dX5_shift_71 : decode cX5_shift 71 = .ok (.getfield 17, 3) := by decide +kernel
theorem dX5_shift_74 : decode cX5_shift 74 = .ok (.aload_n 0, 1) := by decide +kernel
theorem dX5_shift_75 : decode cX5_shift 75 = .ok (.iload_n 1, 1) := by decide +kernel
theorem dX5_shift_76 : decode cX5_shift 76 = .ok (.invokevirtual 115, 3) := by decide +kernel
theorem dX5_shift_79 : decode cX5_shift 79 = .ok (.iconst 3, 1) := by decide +kernel
theorem dX5_shift_80 : decode cX5_shift 80 = .ok (.idiv, 1) := by decide +kernel
theorem dX5_shift_81 : decode cX5_shift 81 = .ok (.dup2, 1) := by decide +kernel
theorem dX5_shift_82 : decode cX5_shift 82 = .ok (.iaload, 1) := by decide +kernel
theorem dX5_shift_83 : decode cX5_shift 83 = .ok (.iconst 1, 1) := by decide +kernel
theorem dX5_shift_84 : decode cX5_shift 84 = .ok (.isub, 1) := by decide +kernel
theorem dX5_shift_85 : decode cX5_shift 85 = .ok (.iastore, 1) := by decide +kernel
theorem dX5_shift_86 : decode cX5_shift 86 = .ok (.aload_n 0, 1) := by decide +kernel
theorem dX5_shift_87 : decode cX5_shift 87 = .ok (.iload_n 1, 1) := by decide +kernel
theorem dX5_shift_88 : decode cX5_shift 88 = .ok (.iload_n 2, 1) := by decide +kernel
theorem dX5_shift_89 : decode cX5_shift 89 = .ok (.invokevirtual 104, 3) := by decide +kernel
theorem dX5_shift_92 : decode cX5_shift 92 = .ok (.aload_n 0, 1) := by decide +kernel
theorem dX5_shift_93 : decode cX5_shift 93 = .ok (.dup, 1) := by decide +kernel
theorem dX5_shift_94 : decode cX5_shift 94 = .ok (.getfield 125, 3) := by decide +kernel
theorem dX5_shift_97 : decode cX5_shift 97 = .ok (.iconst 1, 1) := by decide +kernel
theorem dX5_shift_98 : decode cX5_shift 98 = .ok (.iadd, 1) := by decide +kernel
theorem dX5_shift_99 : decode cX5_shift 99 = .ok (.putfield 125, 3) := by decide +kernel
theorem dX5_shift_102 : decode cX5_shift 102 = .ok (.aload_n 0, 1) := by decide +kernel
theorem dX5_shift_103 : decode cX5_shift 103 = .ok (.getfield 125, 3) := by decide +kernel
theorem dX5_shift_106 : decode cX5_shift 106 = .ok (.ireturn, 1) := by decide +kernel
theorem dX5_canServe_0 : decode cX5_canServe 0 = .ok (.aload_n 0, 1) := by decide +kernel
theorem dX5_canServe_1 : decode cX5_canServe 1 = .ok (.getfield 27, 3) := by decide +kernel
theorem dX5_canServe_4 : decode cX5_canServe 4 = .ok (.iload_n 1, 1) := by decide +kernel
theorem dX5_canServe_5 : decode cX5_canServe 5 = .ok (.iaload, 1) := by decide +kernel
theorem dX5_canServe_6 : decode cX5_canServe 6 = .ok (.ifCond .ge 33, 3) := by decide +kernel
theorem dX5_canServe_9 : decode cX5_canServe 9 = .ok (.aload_n 0, 1) := by decide +kernel
theorem dX5_canServe_10 : decode cX5_canServe 10 = .ok (.getfield 23, 3) := by decide +kernel
theorem dX5_canServe_13 : decode cX5_canServe 13 = .ok (.iload_n 1, 1) := by decide +kernel
theorem dX5_canServe_14 : decode cX5_canServe 14 = .ok (.caload, 1) := by decide +kernel
theorem dX5_canServe_15 : decode cX5_canServe 15 = .ok (.bipush 98, 2) := by decide +kernel
theorem dX5_canServe_17 : decode cX5_canServe 17 = .ok (.if_icmp .eq 18, 3) := by decide +kernel
theorem dX5_canServe_20 : decode cX5_canServe 20 = .ok (.aload_n 0, 1) := by decide +kernel
theorem dX5_canServe_21 : decode cX5_canServe 21 = .ok (.getfield 23, 3) := by decide +kernel
theorem dX5_canServe_24 : decode cX5_canServe 24 = .ok (.iload_n 1, 1) := by decide +kernel
theorem dX5_canServe_25 : decode cX5_canServe 25 = .ok (.caload, 1) := by decide +kernel
theorem dX5_canServe_26 : decode cX5_canServe 26 = .ok (.aload_n 0, 1) := by decide +kernel
theorem dX5_canServe_27 : decode cX5_canServe 27 = .ok (.getfield 33, 3) := by decide +kernel
theorem dX5_canServe_30 : decode cX5_canServe 30 = .ok (.iload_n 2, 1) := by decide +kernel
theorem dX5_canServe_31 : decode cX5_canServe 31 = .ok (.caload, 1) := by decide +kernel
theorem dX5_canServe_32 : decode cX5_canServe 32 = .ok (.if_icmp .ne 7, 3) := by decide +kernel
theorem dX5_canServe_35 : decode cX5_canServe 35 = .ok (.iconst 1, 1) := by decide +kernel
theorem dX5_canServe_36 : decode cX5_canServe 36 = .ok (.goto 4, 3) := by decide +kernel
theorem dX5_canServe_39 : decode cX5_canServe 39 = .ok (.iconst 0, 1) := by decide +kernel
theorem dX5_canServe_40 : decode cX5_canServe 40 = .ok (.ireturn, 1) := by decide +kernel
set_option maxRecDepth 20000 in
theorem ggX5_dock_X5_isNone : GoodIn wsX5_dock wsX5_isNone := goodIn_r _ [14, 15, 16, 17, 13, 18, 44, 45, 46, 47, 48, 49, 50, 51, 52, 53, 54, 55, 56, 57, 58, 59, 60, 61, 62, 63, 64, 65, 66, 67, 68] (by decide +kernel) (by decide +kernel)
set_option maxRecDepth 20000 in
theorem gX5_dock_X5_isNone : GoodIn wsX5_dock (wsV RX5 90 RX5 yX5_isNone wsX5_isNone) := goodIn_app (goodIn_of _ (by decide +kernel)) ggX5_dock_X5_isNone
set_option maxRecDepth 20000 in
theorem ggX5_dock_X5_in : GoodIn wsX5_dock wsX5_in := goodIn_r _ [18] (by decide +kernel) (by decide +kernel)
set_option maxRecDepth 20000 in
theorem gX5_dock_X5_in : GoodIn wsX5_dock (va_wsS RX5 73 yX5_in wsX5_in) := goodIn_app (goodIn_of _ (by decide +kernel)) ggX5_dock_X5_in
set_option maxRecDepth 20000 in
theorem ggX5_dock_X5_isReached : GoodIn wsX5_dock wsX5_isReached := goodIn_ca (goodIn_r _ [22, 23, 24, 25, 13, 26, 27, 2, 28, 29, 30, 31, 32, 44, 45, 46, 47, 48, 49, 50, 51, 52, 53, 54, 55, 56, 57, 58, 59, 60, 61, 62, 63, 64, 65, 66, 67, 68] (by decide +kernel) (by decide +kernel)) (goodIn_sub (fun _ h => List.mem_cons_of_mem _ (List.mem_append_right _ h)) (by decide +kernel))
set_option maxRecDepth 20000 in
theorem gX5_dock_X5_isReached : GoodIn wsX5_dock (wsV RX5 122 RX5 yX5_isReached wsX5_isReached) := goodIn_app (goodIn_of _ (by decide +kernel)) ggX5_dock_X5_isReached
set_option maxRecDepth 20000 in
theorem ggX5_dock_X5_canServe : GoodIn wsX5_dock wsX5_canServe := goodIn_ca (goodIn_r _ [36, 3, 37, 38, 44, 45, 46, 47, 48, 49, 50, 51, 52, 53, 54, 55, 56, 57, 58, 59, 60, 61, 62, 63, 64, 65, 66, 67, 68] (by decide +kernel) (by decide +kernel)) (goodIn_sub (fun _ h => List.mem_cons_of_mem _ (List.mem_append_right _ h)) (by decide +kernel))
set_option maxRecDepth 20000 in
theorem gX5_dock_X5_canServe : GoodIn wsX5_dock (wsV RX5 128 RX5 yX5_canServe wsX5_canServe) := goodIn_app (goodIn_of _ (by decide +kernel)) ggX5_dock_X5_canServe
set_option maxRecDepth 20000 in
theorem ggX5_dock_X5_fails : GoodIn wsX5_dock wsX5_fails := goodIn_r _ [42, 43, 44, 45, 46, 47, 48, 49, 50, 51, 52, 53, 54, 55, 56, 57, 58, 59, 60, 61, 62, 63, 64, 65, 66, 67, 68] (by decide +kernel) (by decide +kernel)
set_option maxRecDepth 20000 in
theorem gX5_dock_X5_fails : GoodIn wsX5_dock (wsV RX5 80 RX5 yX5_fails wsX5_fails) := goodIn_app (goodIn_of _ (by decide +kernel)) ggX5_dock_X5_fails
set_option maxRecDepth 20000 in
theorem ggX5_dock_X5_slotOf : GoodIn wsX5_dock wsX5_slotOf := goodIn_ca (goodIn_r _ [26, 27, 2, 28, 44, 45, 46, 47, 48, 49, 50, 51, 52, 53, 54, 55, 56, 57, 58, 59, 60, 61, 62, 63, 64, 65, 66, 67, 68] (by decide +kernel) (by decide +kernel)) (goodIn_sub (fun _ h => List.mem_cons_of_mem _ (List.mem_append_right _ h)) (by decide +kernel))
set_option maxRecDepth 20000 in
theorem gX5_dock_X5_slotOf : GoodIn wsX5_dock (wsV RX5 115 RX5 yX5_slotOf wsX5_slotOf) := goodIn_app (goodIn_of _ (by decide +kernel)) ggX5_dock_X5_slotOf
theorem dX5_dock_0 : decode cX5_dock 0 = .ok (.aload_n 0, 1) := by decide +kernel
theorem dX5_dock_1 : decode cX5_dock 1 = .ok (.aload_n 0, 1) := by decide +kernel
theorem dX5_dock_2 : decode cX5_dock 2 = .ok (.iload_n 1, 1) := by decide +kernel
theorem dX5_dock_3 : decode cX5_dock 3 = .ok (.invokevirtual 90, 3) := by decide +kernel
theorem dX5_dock_6 : decode cX5_dock 6 = .ok (.ifCond .eq 7, 3) := by decide +kernel
theorem dX5_dock_9 : decode cX5_dock 9 = .ok (.iconst 1, 1) := by decide +kernel
theorem dX5_dock_10 : decode cX5_dock 10 = .ok (.goto 47, 3) := by decide +kernel
theorem dX5_dock_13 : decode cX5_dock 13 = .ok (.iload_n 2, 1) := by decide +kernel
theorem dX5_dock_14 : decode cX5_dock 14 = .ok (.iconst 0, 1) := by decide +kernel
theorem dX5_dock_15 : decode cX5_dock 15 = .ok (.aload_n 0, 1) := by decide +kernel
theorem dX5_dock_16 : decode cX5_dock 16 = .ok (.getfield 84, 3) := by decide +kernel
theorem dX5_dock_19 : decode cX5_dock 19 = .ok (.iconst 1, 1) := by decide +kernel
theorem dX5_dock_20 : decode cX5_dock 20 = .ok (.isub, 1) := by decide +kernel
theorem dX5_dock_21 : decode cX5_dock 21 = .ok (.invokestatic 73, 3) := by decide +kernel
theorem dX5_dock_24 : decode cX5_dock 24 = .ok (.ifCond .ne 7, 3) := by decide +kernel
theorem dX5_dock_27 : decode cX5_dock 27 = .ok (.iconst 2, 1) := by decide +kernel
theorem dX5_dock_28 : decode cX5_dock 28 = .ok (.goto 29, 3) := by decide +kernel
theorem dX5_dock_31 : decode cX5_dock 31 = .ok (.aload_n 0, 1) := by decide +kernel
theorem dX5_dock_32 : decode cX5_dock 32 = .ok (.iload_n 1, 1) := by decide +kernel
theorem dX5_dock_33 : decode cX5_dock 33 = .ok (.invokevirtual 122, 3) := by decide +kernel
theorem dX5_dock_36 : decode cX5_dock 36 = .ok (.ifCond .ne 7, 3) := by decide +kernel
theorem dX5_dock_39 : decode cX5_dock 39 = .ok (.iconst 3, 1) := by decide +kernel
theorem dX5_dock_40 : decode cX5_dock 40 = .ok (.goto 17, 3) := by decide +kernel
theorem dX5_dock_43 : decode cX5_dock 43 = .ok (.aload_n 0, 1) := by decide +kernel
theorem dX5_dock_44 : decode cX5_dock 44 = .ok (.iload_n 2, 1) := by decide +kernel
theorem dX5_dock_45 : decode cX5_dock 45 = .ok (.iload_n 1, 1) := by decide +kernel
theorem dX5_dock_46 : decode cX5_dock 46 = .ok (.invokevirtual 128, 3) := by decide +kernel
theorem dX5_dock_49 : decode cX5_dock 49 = .ok (.ifCond .eq 7, 3) := by decide +kernel
theorem dX5_dock_52 : decode cX5_dock 52 = .ok (.iconst 0, 1) := by decide +kernel
theorem dX5_dock_53 : decode cX5_dock 53 = .ok (.goto 4, 3) := by decide +kernel
theorem dX5_dock_56 : decode cX5_dock 56 = .ok (.iconst 4, 1) := by decide +kernel
theorem dX5_dock_57 : decode cX5_dock 57 = .ok (.invokevirtual 80, 3) := by decide +kernel
theorem dX5_dock_60 : decode cX5_dock 60 = .ok (.ifCond .eq 5, 3) := by decide +kernel
theorem dX5_dock_63 : decode cX5_dock 63 = .ok (.iconst 0, 1) := by decide +kernel
theorem dX5_dock_64 : decode cX5_dock 64 = .ok (.ireturn, 1) := by decide +kernel
theorem dX5_dock_65 : decode cX5_dock 65 = .ok (.aload_n 0, 1) := by decide +kernel
theorem dX5_dock_66 : decode cX5_dock 66 = .ok (.getfield 17, 3) := by decide +kernel
theorem dX5_dock_69 : decode cX5_dock 69 = .ok (.aload_n 0, 1) := by decide +kernel
theorem dX5_dock_70 : decode cX5_dock 70 = .ok (.iload_n 1, 1) := by decide +kernel
theorem dX5_dock_71 : decode cX5_dock 71 = .ok (.invokevirtual 115, 3) := by decide +kernel
theorem dX5_dock_74 : decode cX5_dock 74 = .ok (.iconst 3, 1) := by decide +kernel
theorem dX5_dock_75 : decode cX5_dock 75 = .ok (.idiv, 1) := by decide +kernel
theorem dX5_dock_76 : decode cX5_dock 76 = .ok (.dup2, 1) := by decide +kernel
theorem dX5_dock_77 : decode cX5_dock 77 = .ok (.iaload, 1) := by decide +kernel
theorem dX5_dock_78 : decode cX5_dock 78 = .ok (.iconst 1, 1) := by decide +kernel
theorem dX5_dock_79 : decode cX5_dock 79 = .ok (.isub, 1) := by decide +kernel
theorem dX5_dock_80 : decode cX5_dock 80 = .ok (.iastore, 1) := by decide +kernel
theorem dX5_dock_81 : decode cX5_dock 81 = .ok (.aload_n 0, 1) := by decide +kernel
theorem dX5_dock_82 : decode cX5_dock 82 = .ok (.getfield 27, 3) := by decide +kernel
theorem dX5_dock_85 : decode cX5_dock 85 = .ok (.iload_n 2, 1) := by decide +kernel
theorem dX5_dock_86 : decode cX5_dock 86 = .ok (.iload_n 1, 1) := by decide +kernel
theorem dX5_dock_87 : decode cX5_dock 87 = .ok (.iastore, 1) := by decide +kernel
theorem dX5_dock_88 : decode cX5_dock 88 = .ok (.aload_n 0, 1) := by decide +kernel
theorem dX5_dock_89 : decode cX5_dock 89 = .ok (.getfield 48, 3) := by decide +kernel
theorem dX5_dock_92 : decode cX5_dock 92 = .ok (.iload_n 1, 1) := by decide +kernel
theorem dX5_dock_93 : decode cX5_dock 93 = .ok (.iload_n 2, 1) := by decide +kernel
theorem dX5_dock_94 : decode cX5_dock 94 = .ok (.iastore, 1) := by decide +kernel
theorem dX5_dock_95 : decode cX5_dock 95 = .ok (.aload_n 0, 1) := by decide +kernel
theorem dX5_dock_96 : decode cX5_dock 96 = .ok (.getfield 45, 3) := by decide +kernel
theorem dX5_dock_99 : decode cX5_dock 99 = .ok (.iload_n 1, 1) := by decide +kernel
theorem dX5_dock_100 : decode cX5_dock 100 = .ok (.aload_n 0, 1) := by decide +kernel
theorem dX5_dock_101 : decode cX5_dock 101 = .ok (.getfield 87, 3) := by decide +kernel
theorem dX5_dock_104 : decode cX5_dock 104 = .ok (.iastore, 1) := by decide +kernel
theorem dX5_dock_105 : decode cX5_dock 105 = .ok (.aload_n 0, 1) := by decide +kernel
theorem dX5_dock_106 : decode cX5_dock 106 = .ok (.getfield 39, 3) := by decide +kernel
theorem dX5_dock_109 : decode cX5_dock 109 = .ok (.iload_n 1, 1) := by decide +kernel
theorem dX5_dock_110 : decode cX5_dock 110 = .ok (.bipush 119, 2) := by decide +kernel
theorem dX5_dock_112 : decode cX5_dock 112 = .ok (.castore, 1) := by decide +kernel
theorem dX5_dock_113 : decode cX5_dock 113 = .ok (.aload_n 0, 1) := by decide +kernel
theorem dX5_dock_114 : decode cX5_dock 114 = .ok (.dup, 1) := by decide +kernel
theorem dX5_dock_115 : decode cX5_dock 115 = .ok (.getfield 125, 3) := by decide +kernel
theorem dX5_dock_118 : decode cX5_dock 118 = .ok (.iconst 1, 1) := by decide +kernel
theorem dX5_dock_119 : decode cX5_dock 119 = .ok (.iadd, 1) := by decide +kernel
theorem dX5_dock_120 : decode cX5_dock 120 = .ok (.putfield 125, 3) := by decide +kernel
theorem dX5_dock_123 : decode cX5_dock 123 = .ok (.aload_n 0, 1) := by decide +kernel
theorem dX5_dock_124 : decode cX5_dock 124 = .ok (.getfield 87, 3) := by decide +kernel
theorem dX5_dock_127 : decode cX5_dock 127 = .ok (.aload_n 0, 1) := by decide +kernel
theorem dX5_dock_128 : decode cX5_dock 128 = .ok (.getfield 36, 3) := by decide +kernel
theorem dX5_dock_131 : decode cX5_dock 131 = .ok (.iload_n 1, 1) := by decide +kernel
theorem dX5_dock_132 : decode cX5_dock 132 = .ok (.iaload, 1) := by decide +kernel
theorem dX5_dock_133 : decode cX5_dock 133 = .ok (.iadd, 1) := by decide +kernel
theorem dX5_dock_134 : decode cX5_dock 134 = .ok (.ireturn, 1) := by decide +kernel
theorem dX5_waits_0 : decode cX5_waits 0 = .ok (.aload_n 0, 1) := by decide +kernel
theorem dX5_waits_1 : decode cX5_waits 1 = .ok (.getfield 42, 3) := by decide +kernel
theorem dX5_waits_4 : decode cX5_waits 4 = .ok (.iload_n 1, 1) := by decide +kernel
theorem dX5_waits_5 : decode cX5_waits 5 = .ok (.iaload, 1) := by decide +kernel
theorem dX5_waits_6 : decode cX5_waits 6 = .ok (.aload_n 0, 1) := by decide +kernel
theorem dX5_waits_7 : decode cX5_waits 7 = .ok (.getfield 30, 3) := by decide +kernel
theorem dX5_waits_10 : decode cX5_waits 10 = .ok (.iload_n 1, 1) := by decide +kernel
theorem dX5_waits_11 : decode cX5_waits 11 = .ok (.iaload, 1) := by decide +kernel
theorem dX5_waits_12 : decode cX5_waits 12 = .ok (.if_icmp .le 12, 3) := by decide +kernel
theorem dX5_waits_15 : decode cX5_waits 15 = .ok (.aload_n 0, 1) := by decide +kernel
theorem dX5_waits_16 : decode cX5_waits 16 = .ok (.getfield 42, 3) := by decide +kernel
theorem dX5_waits_19 : decode cX5_waits 19 = .ok (.iload_n 1, 1) := by decide +kernel
theorem dX5_waits_20 : decode cX5_waits 20 = .ok (.iaload, 1) := by decide +kernel
theorem dX5_waits_21 : decode cX5_waits 21 = .ok (.goto 9, 3) := by decide +kernel
theorem dX5_waits_24 : decode cX5_waits 24 = .ok (.aload_n 0, 1) := by decide +kernel
theorem dX5_waits_25 : decode cX5_waits 25 = .ok (.getfield 30, 3) := by decide +kernel
theorem dX5_waits_28 : decode cX5_waits 28 = .ok (.iload_n 1, 1) := by decide +kernel
theorem dX5_waits_29 : decode cX5_waits 29 = .ok (.iaload, 1) := by decide +kernel
theorem dX5_waits_30 : decode cX5_waits 30 = .ok (.istore_n 2, 1) := by decide +kernel
theorem dX5_waits_31 : decode cX5_waits 31 = .ok (.aload_n 0, 1) := by decide +kernel
theorem dX5_waits_32 : decode cX5_waits 32 = .ok (.getfield 39, 3) := by decide +kernel
theorem dX5_waits_35 : decode cX5_waits 35 = .ok (.iload_n 1, 1) := by decide +kernel
theorem dX5_waits_36 : decode cX5_waits 36 = .ok (.caload, 1) := by decide +kernel
theorem dX5_waits_37 : decode cX5_waits 37 = .ok (.bipush 121, 2) := by decide +kernel
theorem dX5_waits_39 : decode cX5_waits 39 = .ok (.if_icmp .ne 10, 3) := by decide +kernel
theorem dX5_waits_42 : decode cX5_waits 42 = .ok (.aload_n 0, 1) := by decide +kernel
theorem dX5_waits_43 : decode cX5_waits 43 = .ok (.getfield 87, 3) := by decide +kernel
theorem dX5_waits_46 : decode cX5_waits 46 = .ok (.goto 9, 3) := by decide +kernel
theorem dX5_waits_49 : decode cX5_waits 49 = .ok (.aload_n 0, 1) := by decide +kernel
theorem dX5_waits_50 : decode cX5_waits 50 = .ok (.getfield 45, 3) := by decide +kernel
theorem dX5_waits_53 : decode cX5_waits 53 = .ok (.iload_n 1, 1) := by decide +kernel
theorem dX5_waits_54 : decode cX5_waits 54 = .ok (.iaload, 1) := by decide +kernel
theorem dX5_waits_55 : decode cX5_waits 55 = .ok (.istore_n 3, 1) := by decide +kernel
theorem dX5_waits_56 : decode cX5_waits 56 = .ok (.iload_n 3, 1) := by decide +kernel
theorem dX5_waits_57 : decode cX5_waits 57 = .ok (.iload_n 2, 1) := by decide +kernel
theorem dX5_waits_58 : decode cX5_waits 58 = .ok (.if_icmp .le 9, 3) := by decide +kernel
theorem dX5_waits_61 : decode cX5_waits 61 = .ok (.iload_n 3, 1) := by decide +kernel
theorem dX5_waits_62 : decode cX5_waits 62 = .ok (.iload_n 2, 1) := by decide +kernel
theorem dX5_waits_63 : decode cX5_waits 63 = .ok (.isub, 1) := by decide +kernel
theorem dX5_waits_64 : decode cX5_waits 64 = .ok (.goto 4, 3) := by decide +kernel
theorem dX5_waits_67 : decode cX5_waits 67 = .ok (.iconst 0, 1) := by decide +kernel
theorem dX5_waits_68 : decode cX5_waits 68 = .ok (.ireturn, 1) := by decide +kernel
set_option maxRecDepth 20000 in
theorem ggX5_costs_X5_waits : GoodIn wsX5_costs wsX5_waits := goodIn_ca (goodIn_r _ [9, 10, 11, 12, 13, 14, 20, 21, 22, 23, 24, 25, 26, 27, 28, 29, 30, 31, 32, 33, 34, 35, 36, 37, 38, 39, 40, 41, 42, 43, 44] (by decide +kernel) (by decide +kernel)) (goodIn_sub (fun _ h => List.mem_cons_of_mem _ (List.mem_append_right _ h)) (by decide +kernel))
set_option maxRecDepth 20000 in
theorem gX5_costs_X5_waits : GoodIn wsX5_costs (wsV RX5 131 RX5 yX5_waits wsX5_waits) := goodIn_app (goodIn_of _ (by decide +kernel)) ggX5_costs_X5_waits
set_option maxRecDepth 20000 in
theorem ggX5_costs_X5_punctual : GoodIn wsX5_costs wsX5_punctual := goodIn_ca (goodIn_r _ [18, 10, 11, 19, 20, 21, 22, 23, 24, 25, 26, 27, 28, 29, 30, 31, 32, 33, 34, 35, 36, 37, 38, 39, 40, 41, 42, 43, 44] (by decide +kernel) (by decide +kernel)) (goodIn_sub (fun _ h => List.mem_cons_of_mem _ (List.mem_append_right _ h)) (by decide +kernel))
set_option maxRecDepth 20000 in
theorem gX5_costs_X5_punctual : GoodIn wsX5_costs (wsV RX5 108 RX5 yX5_punctual wsX5_punctual) := goodIn_app (goodIn_of _ (by decide +kernel)) ggX5_costs_X5_punctual
theorem dX5_costs_0 : decode cX5_costs 0 = .ok (.aload_n 0, 1) := by decide +kernel
theorem dX5_costs_1 : decode cX5_costs 1 = .ok (.iload_n 1, 1) := by decide +kernel
theorem dX5_costs_2 : decode cX5_costs 2 = .ok (.invokevirtual 131, 3) := by decide +kernel
theorem dX5_costs_5 : decode cX5_costs 5 = .ok (.aload_n 0, 1) := by decide +kernel
theorem dX5_costs_6 : decode cX5_costs 6 = .ok (.getfield 55, 3) := by decide +kernel
theorem dX5_costs_9 : decode cX5_costs 9 = .ok (.isub, 1) := by decide +kernel
theorem dX5_costs_10 : decode cX5_costs 10 = .ok (.istore_n 2, 1) := by decide +kernel
theorem dX5_costs_11 : decode cX5_costs 11 = .ok (.aload_n 0, 1) := by decide +kernel
theorem dX5_costs_12 : decode cX5_costs 12 = .ok (.iload_n 1, 1) := by decide +kernel
theorem dX5_costs_13 : decode cX5_costs 13 = .ok (.invokevirtual 108, 3) := by decide +kernel
theorem dX5_costs_16 : decode cX5_costs 16 = .ok (.bipush 108, 2) := by decide +kernel
theorem dX5_costs_18 : decode cX5_costs 18 = .ok (.if_icmp .eq 7, 3) := by decide +kernel
theorem dX5_costs_21 : decode cX5_costs 21 = .ok (.iload_n 2, 1) := by decide +kernel
theorem dX5_costs_22 : decode cX5_costs 22 = .ok (.ifCond .gt 5, 3) := by decide +kernel
theorem dX5_costs_25 : decode cX5_costs 25 = .ok (.iconst 0, 1) := by decide +kernel
theorem dX5_costs_26 : decode cX5_costs 26 = .ok (.ireturn, 1) := by decide +kernel
theorem dX5_costs_27 : decode cX5_costs 27 = .ok (.iload_n 2, 1) := by decide +kernel
theorem dX5_costs_28 : decode cX5_costs 28 = .ok (.aload_n 0, 1) := by decide +kernel
theorem dX5_costs_29 : decode cX5_costs 29 = .ok (.getfield 61, 3) := by decide +kernel
theorem dX5_costs_32 : decode cX5_costs 32 = .ok (.if_icmp .gt 12, 3) := by decide +kernel
theorem dX5_costs_35 : decode cX5_costs 35 = .ok (.iload_n 2, 1) := by decide +kernel
theorem dX5_costs_36 : decode cX5_costs 36 = .ok (.aload_n 0, 1) := by decide +kernel
theorem dX5_costs_37 : decode cX5_costs 37 = .ok (.getfield 58, 3) := by decide +kernel
theorem dX5_costs_40 : decode cX5_costs 40 = .ok (.imul, 1) := by decide +kernel
theorem dX5_costs_41 : decode cX5_costs 41 = .ok (.goto 24, 3) := by decide +kernel
theorem dX5_costs_44 : decode cX5_costs 44 = .ok (.aload_n 0, 1) := by decide +kernel
theorem dX5_costs_45 : decode cX5_costs 45 = .ok (.getfield 61, 3) := by decide +kernel
theorem dX5_costs_48 : decode cX5_costs 48 = .ok (.aload_n 0, 1) := by decide +kernel
theorem dX5_costs_49 : decode cX5_costs 49 = .ok (.getfield 58, 3) := by decide +kernel
theorem dX5_costs_52 : decode cX5_costs 52 = .ok (.imul, 1) := by decide +kernel
theorem dX5_costs_53 : decode cX5_costs 53 = .ok (.iload_n 2, 1) := by decide +kernel
theorem dX5_costs_54 : decode cX5_costs 54 = .ok (.aload_n 0, 1) := by decide +kernel
theorem dX5_costs_55 : decode cX5_costs 55 = .ok (.getfield 61, 3) := by decide +kernel
theorem dX5_costs_58 : decode cX5_costs 58 = .ok (.isub, 1) := by decide +kernel
theorem dX5_costs_59 : decode cX5_costs 59 = .ok (.aload_n 0, 1) := by decide +kernel
theorem dX5_costs_60 : decode cX5_costs 60 = .ok (.getfield 64, 3) := by decide +kernel
theorem dX5_costs_63 : decode cX5_costs 63 = .ok (.imul, 1) := by decide +kernel
theorem dX5_costs_64 : decode cX5_costs 64 = .ok (.iadd, 1) := by decide +kernel
theorem dX5_costs_65 : decode cX5_costs 65 = .ok (.ireturn, 1) := by decide +kernel
set_option maxRecDepth 20000 in
theorem ggX5_leave_X5_isNone : GoodIn wsX5_leave wsX5_isNone := goodIn_r _ [12, 13, 14, 15, 11, 16, 41, 42, 43, 44, 45, 46, 47, 48, 49, 50, 51, 52, 53, 54, 55, 56, 57, 58, 59, 60, 61, 62, 63, 64, 65] (by decide +kernel) (by decide +kernel)
set_option maxRecDepth 20000 in
theorem gX5_leave_X5_isNone : GoodIn wsX5_leave (wsV RX5 90 RX5 yX5_isNone wsX5_isNone) := goodIn_app (goodIn_of _ (by decide +kernel)) ggX5_leave_X5_isNone
set_option maxRecDepth 20000 in
theorem ggX5_leave_X5_fails : GoodIn wsX5_leave wsX5_fails := goodIn_r _ [20, 21, 41, 42, 43, 44, 45, 46, 47, 48, 49, 50, 51, 52, 53, 54, 55, 56, 57, 58, 59, 60, 61, 62, 63, 64, 65] (by decide +kernel) (by decide +kernel)
set_option maxRecDepth 20000 in
theorem gX5_leave_X5_fails : GoodIn wsX5_leave (wsV RX5 80 RX5 yX5_fails wsX5_fails) := goodIn_app (goodIn_of _ (by decide +kernel)) ggX5_leave_X5_fails
set_option maxRecDepth 20000 in
theorem ggX5_leave_X5_costs : GoodIn wsX5_leave wsX5_costs := goodIn_ca (goodIn_r _ [25, 26, 27, 28, 29, 30, 31, 32, 11, 33, 34, 35, 1, 2, 3, 36, 37, 38, 39, 40, 41, 42, 43, 44, 45, 46, 47, 48, 49, 50, 51, 52, 53, 54, 55, 56, 57, 58, 59, 60, 61, 62, 63, 64, 65] (by decide +kernel) (by decide +kernel)) (goodIn_sub (fun _ h => List.mem_cons_of_mem _ (List.mem_append_right _ h)) (by decide +kernel))
set_option maxRecDepth 20000 in
theorem gX5_leave_X5_costs : GoodIn wsX5_leave (wsV RX5 138 RX5 yX5_costs wsX5_costs) := goodIn_app (goodIn_of _ (by decide +kernel)) ggX5_leave_X5_costs
theorem dX5_leave_0 : decode cX5_leave 0 = .ok (.aload_n 0, 1) := by decide +kernel
theorem dX5_leave_1 : decode cX5_leave 1 = .ok (.aload_n 0, 1) := by decide +kernel
theorem dX5_leave_2 : decode cX5_leave 2 = .ok (.iload_n 1, 1) := by decide +kernel
theorem dX5_leave_3 : decode cX5_leave 3 = .ok (.invokevirtual 90, 3) := by decide +kernel
theorem dX5_leave_6 : decode cX5_leave 6 = .ok (.ifCond .eq 7, 3) := by decide +kernel
theorem dX5_leave_9 : decode cX5_leave 9 = .ok (.iconst 1, 1) := by decide +kernel
theorem dX5_leave_10 : decode cX5_leave 10 = .ok (.goto 43, 3) := by decide +kernel
theorem dX5_leave_13 : decode cX5_leave 13 = .ok (.aload_n 0, 1) := by decide +kernel
theorem dX5_leave_14 : decode cX5_leave 14 = .ok (.getfield 39, 3) := by decide +kernel
theorem dX5_leave_17 : decode cX5_leave 17 = .ok (.iload_n 1, 1) := by decide +kernel
theorem dX5_leave_18 : decode cX5_leave 18 = .ok (.caload, 1) := by decide +kernel
theorem dX5_leave_19 : decode cX5_leave 19 = .ok (.bipush 119, 2) := by decide +kernel
theorem dX5_leave_21 : decode cX5_leave 21 = .ok (.if_icmp .eq 7, 3) := by decide +kernel
theorem dX5_leave_24 : decode cX5_leave 24 = .ok (.iconst 2, 1) := by decide +kernel
theorem dX5_leave_25 : decode cX5_leave 25 = .ok (.goto 28, 3) := by decide +kernel
theorem dX5_leave_28 : decode cX5_leave 28 = .ok (.aload_n 0, 1) := by decide +kernel
theorem dX5_leave_29 : decode cX5_leave 29 = .ok (.getfield 87, 3) := by decide +kernel
theorem dX5_leave_32 : decode cX5_leave 32 = .ok (.aload_n 0, 1) := by decide +kernel
theorem dX5_leave_33 : decode cX5_leave 33 = .ok (.getfield 45, 3) := by decide +kernel
theorem dX5_leave_36 : decode cX5_leave 36 = .ok (.iload_n 1, 1) := by decide +kernel
theorem dX5_leave_37 : decode cX5_leave 37 = .ok (.iaload, 1) := by decide +kernel
theorem dX5_leave_38 : decode cX5_leave 38 = .ok (.aload_n 0, 1) := by decide +kernel
theorem dX5_leave_39 : decode cX5_leave 39 = .ok (.getfield 36, 3) := by decide +kernel
theorem dX5_leave_42 : decode cX5_leave 42 = .ok (.iload_n 1, 1) := by decide +kernel
theorem dX5_leave_43 : decode cX5_leave 43 = .ok (.iaload, 1) := by decide +kernel
theorem dX5_leave_44 : decode cX5_leave 44 = .ok (.iadd, 1) := by decide +kernel
theorem dX5_leave_45 : decode cX5_leave 45 = .ok (.if_icmp .ge 7, 3) := by decide +kernel
theorem dX5_leave_48 : decode cX5_leave 48 = .ok (.iconst 3, 1) := by decide +kernel
theorem dX5_leave_49 : decode cX5_leave 49 = .ok (.goto 4, 3) := by decide +kernel
theorem dX5_leave_52 : decode cX5_leave 52 = .ok (.iconst 0, 1) := by decide +kernel
theorem dX5_leave_53 : decode cX5_leave 53 = .ok (.invokevirtual 80, 3) := by decide +kernel
theorem dX5_leave_56 : decode cX5_leave 56 = .ok (.ifCond .eq 5, 3) := by decide +kernel
theorem dX5_leave_59 : decode cX5_leave 59 = .ok (.iconst 0, 1) := by decide +kernel
theorem dX5_leave_60 : decode cX5_leave 60 = .ok (.ireturn, 1) := by decide +kernel
theorem dX5_leave_61 : decode cX5_leave 61 = .ok (.aload_n 0, 1) := by decide +kernel
theorem dX5_leave_62 : decode cX5_leave 62 = .ok (.getfield 39, 3) := by decide +kernel
theorem dX5_leave_65 : decode cX5_leave 65 = .ok (.iload_n 1, 1) := by decide +kernel
theorem dX5_leave_66 : decode cX5_leave 66 = .ok (.bipush 103, 2) := by decide +kernel
theorem dX5_leave_68 : decode cX5_leave 68 = .ok (.castore, 1) := by decide +kernel
theorem dX5_leave_69 : decode cX5_leave 69 = .ok (.aload_n 0, 1) := by decide +kernel
theorem dX5_leave_70 : decode cX5_leave 70 = .ok (.getfield 27, 3) := by decide +kernel
theorem dX5_leave_73 : decode cX5_leave 73 = .ok (.aload_n 0, 1) := by decide +kernel
theorem dX5_leave_74 : decode cX5_leave 74 = .ok (.getfield 48, 3) := by decide +kernel
theorem dX5_leave_77 : decode cX5_leave 77 = .ok (.iload_n 1, 1) := by decide +kernel
theorem dX5_leave_78 : decode cX5_leave 78 = .ok (.iaload, 1) := by decide +kernel
theorem dX5_leave_79 : decode cX5_leave 79 = .ok (.iconst (-1), 1) := by decide +kernel
theorem dX5_leave_80 : decode cX5_leave 80 = .ok (.iastore, 1) := by decide +kernel
theorem dX5_leave_81 : decode cX5_leave 81 = .ok (.aload_n 0, 1) := by decide +kernel
theorem dX5_leave_82 : decode cX5_leave 82 = .ok (.dup, 1) := by decide +kernel
theorem dX5_leave_83 : decode cX5_leave 83 = .ok (.getfield 134, 3) := by decide +kernel
theorem dX5_leave_86 : decode cX5_leave 86 = .ok (.aload_n 0, 1) := by decide +kernel
theorem dX5_leave_87 : decode cX5_leave 87 = .ok (.iload_n 1, 1) := by decide +kernel
theorem dX5_leave_88 : decode cX5_leave 88 = .ok (.invokevirtual 138, 3) := by decide +kernel
theorem dX5_leave_91 : decode cX5_leave 91 = .ok (.i2l, 1) := by decide +kernel
theorem dX5_leave_92 : decode cX5_leave 92 = .ok (.ladd, 1) := by decide +kernel
theorem dX5_leave_93 : decode cX5_leave 93 = .ok (.putfield 134, 3) := by decide +kernel
theorem dX5_leave_96 : decode cX5_leave 96 = .ok (.aload_n 0, 1) := by decide +kernel
theorem dX5_leave_97 : decode cX5_leave 97 = .ok (.iload_n 1, 1) := by decide +kernel
theorem dX5_leave_98 : decode cX5_leave 98 = .ok (.invokevirtual 138, 3) := by decide +kernel
theorem dX5_leave_101 : decode cX5_leave 101 = .ok (.ireturn, 1) := by decide +kernel
set_option maxRecDepth 20000 in
theorem ggX5_isElsewhere_X5_isNone : GoodIn wsX5_isElsewhere wsX5_isNone := goodIn_r _ [6, 7, 8, 9, 5, 10, 16, 17, 18, 19, 20, 21, 22, 23, 24, 25, 26, 27, 28, 29, 30, 31, 32, 33, 34, 35, 36, 37, 38, 39, 40] (by decide +kernel) (by decide +kernel)
set_option maxRecDepth 20000 in
theorem gX5_isElsewhere_X5_isNone : GoodIn wsX5_isElsewhere (wsV RX5 90 RX5 yX5_isNone wsX5_isNone) := goodIn_app (goodIn_of _ (by decide +kernel)) ggX5_isElsewhere_X5_isNone
set_option maxRecDepth 20000 in
theorem ggX5_isElsewhere_X5_fails : GoodIn wsX5_isElsewhere wsX5_fails := goodIn_r _ [14, 15, 16, 17, 18, 19, 20, 21, 22, 23, 24, 25, 26, 27, 28, 29, 30, 31, 32, 33, 34, 35, 36, 37, 38, 39, 40] (by decide +kernel) (by decide +kernel)
set_option maxRecDepth 20000 in
theorem gX5_isElsewhere_X5_fails : GoodIn wsX5_isElsewhere (wsV RX5 80 RX5 yX5_fails wsX5_fails) := goodIn_app (goodIn_of _ (by decide +kernel)) ggX5_isElsewhere_X5_fails
theorem dX5_isElsewhere_0 : decode cX5_isElsewhere 0 = .ok (.aload_n 0, 1) := by decide +kernel
theorem dX5_isElsewhere_1 : decode cX5_isElsewhere 1 = .ok (.aload_n 0, 1) := by decide +kernel
theorem dX5_isElsewhere_2 : decode cX5_isElsewhere 2 = .ok (.iload_n 1, 1) := by decide +kernel
theorem dX5_isElsewhere_3 : decode cX5_isElsewhere 3 = .ok (.invokevirtual 90, 3) := by decide +kernel
theorem dX5_isElsewhere_6 : decode cX5_isElsewhere 6 = .ok (.ifCond .eq 7, 3) := by decide +kernel
theorem dX5_isElsewhere_9 : decode cX5_isElsewhere 9 = .ok (.iconst 1, 1) := by decide +kernel
theorem dX5_isElsewhere_10 : decode cX5_isElsewhere 10 = .ok (.goto 19, 3) := by decide +kernel
theorem dX5_isElsewhere_13 : decode cX5_isElsewhere 13 = .ok (.aload_n 0, 1) := by decide +kernel
theorem dX5_isElsewhere_14 : decode cX5_isElsewhere 14 = .ok (.getfield 39, 3) := by decide +kernel
theorem dX5_isElsewhere_17 : decode cX5_isElsewhere 17 = .ok (.iload_n 1, 1) := by decide +kernel
theorem dX5_isElsewhere_18 : decode cX5_isElsewhere 18 = .ok (.caload, 1) := by decide +kernel
theorem dX5_isElsewhere_19 : decode cX5_isElsewhere 19 = .ok (.bipush 121, 2) := by decide +kernel
theorem dX5_isElsewhere_21 : decode cX5_isElsewhere 21 = .ok (.if_icmp .eq 7, 3) := by decide +kernel
theorem dX5_isElsewhere_24 : decode cX5_isElsewhere 24 = .ok (.iconst 2, 1) := by decide +kernel
theorem dX5_isElsewhere_25 : decode cX5_isElsewhere 25 = .ok (.goto 4, 3) := by decide +kernel
theorem dX5_isElsewhere_28 : decode cX5_isElsewhere 28 = .ok (.iconst 0, 1) := by decide +kernel
theorem dX5_isElsewhere_29 : decode cX5_isElsewhere 29 = .ok (.invokevirtual 80, 3) := by decide +kernel
theorem dX5_isElsewhere_32 : decode cX5_isElsewhere 32 = .ok (.ireturn, 1) := by decide +kernel
set_option maxRecDepth 20000 in
theorem ggX5_laneOf_X5_isElsewhere : GoodIn wsX5_laneOf wsX5_isElsewhere := goodIn_ca (goodIn_r _ [5, 6, 7, 8, 9, 4, 10, 11, 12, 13, 14, 15, 16, 17, 18, 19, 27, 28, 29, 30, 31, 32, 33, 34, 35, 36, 37, 38, 39, 40, 41, 42, 43, 44, 45, 46, 47, 48, 49, 50, 51] (by decide +kernel) (by decide +kernel)) (goodIn_sub (fun _ h => List.mem_cons_of_mem _ (List.mem_append_right _ h)) (by decide +kernel))
set_option maxRecDepth 20000 in
theorem gX5_laneOf_X5_isElsewhere : GoodIn wsX5_laneOf (wsV RX5 141 RX5 yX5_isElsewhere wsX5_isElsewhere) := goodIn_app (goodIn_of _ (by decide +kernel)) ggX5_laneOf_X5_isElsewhere
set_option maxRecDepth 20000 in
theorem ggX5_laneOf_X5_slotOf : GoodIn wsX5_laneOf wsX5_slotOf := goodIn_ca (goodIn_r _ [23, 24, 25, 26, 27, 28, 29, 30, 31, 32, 33, 34, 35, 36, 37, 38, 39, 40, 41, 42, 43, 44, 45, 46, 47, 48, 49, 50, 51] (by decide +kernel) (by decide +kernel)) (goodIn_sub (fun _ h => List.mem_cons_of_mem _ (List.mem_append_right _ h)) (by decide +kernel))
set_option maxRecDepth 20000 in
theorem gX5_laneOf_X5_slotOf : GoodIn wsX5_laneOf (wsV RX5 115 RX5 yX5_slotOf wsX5_slotOf) := goodIn_app (goodIn_of _ (by decide +kernel)) ggX5_laneOf_X5_slotOf
theorem dX5_laneOf_0 : decode cX5_laneOf 0 = .ok (.aload_n 0, 1) := by decide +kernel
theorem dX5_laneOf_1 : decode cX5_laneOf 1 = .ok (.iload_n 1, 1) := by decide +kernel
theorem dX5_laneOf_2 : decode cX5_laneOf 2 = .ok (.invokevirtual 141, 3) := by decide +kernel
theorem dX5_laneOf_5 : decode cX5_laneOf 5 = .ok (.ifCond .eq 7, 3) := by decide +kernel
theorem dX5_laneOf_8 : decode cX5_laneOf 8 = .ok (.iconst 0, 1) := by decide +kernel
theorem dX5_laneOf_9 : decode cX5_laneOf 9 = .ok (.goto 10, 3) := by decide +kernel
theorem dX5_laneOf_12 : decode cX5_laneOf 12 = .ok (.aload_n 0, 1) := by decide +kernel
theorem dX5_laneOf_13 : decode cX5_laneOf 13 = .ok (.iload_n 1, 1) := by decide +kernel
theorem dX5_laneOf_14 : decode cX5_laneOf 14 = .ok (.invokevirtual 115, 3) := by decide +kernel
theorem dX5_laneOf_17 : decode cX5_laneOf 17 = .ok (.iconst 3, 1) := by decide +kernel
theorem dX5_laneOf_18 : decode cX5_laneOf 18 = .ok (.idiv, 1) := by decide +kernel
theorem dX5_laneOf_19 : decode cX5_laneOf 19 = .ok (.ireturn, 1) := by decide +kernel
set_option maxRecDepth 20000 in
theorem ggX5_blockers_X5_isElsewhere : GoodIn wsX5_blockers wsX5_isElsewhere := goodIn_ca (goodIn_r _ [5, 6, 7, 8, 9, 4, 10, 11, 12, 13, 14, 15, 16, 17, 18, 19, 31, 32, 33, 34, 35, 36, 37, 38, 39, 40, 41, 42, 43, 44, 45, 46, 47, 48, 49, 50, 51, 52, 53, 54, 55] (by decide +kernel) (by decide +kernel)) (goodIn_sub (fun _ h => List.mem_cons_of_mem _ (List.mem_append_right _ h)) (by decide +kernel))
set_option maxRecDepth 20000 in
theorem gX5_blockers_X5_isElsewhere : GoodIn wsX5_blockers (wsV RX5 141 RX5 yX5_isElsewhere wsX5_isElsewhere) := goodIn_app (goodIn_of _ (by decide +kernel)) ggX5_blockers_X5_isElsewhere
set_option maxRecDepth 20000 in
theorem ggX5_blockers_X5_ahead : GoodIn wsX5_blockers wsX5_ahead := goodIn_ca (goodIn_r _ [23, 24, 25, 26, 27, 4, 28, 29, 30, 31, 32, 33, 34, 35, 36, 37, 38, 39, 40, 41, 42, 43, 44, 45, 46, 47, 48, 49, 50, 51, 52, 53, 54, 55] (by decide +kernel) (by decide +kernel)) (goodIn_sub (fun _ h => List.mem_cons_of_mem _ (List.mem_append_right _ h)) (by decide +kernel))
set_option maxRecDepth 20000 in
theorem gX5_blockers_X5_ahead : GoodIn wsX5_blockers (wsV RX5 119 RX5 yX5_ahead wsX5_ahead) := goodIn_app (goodIn_of _ (by decide +kernel)) ggX5_blockers_X5_ahead
theorem dX5_blockers_0 : decode cX5_blockers 0 = .ok (.aload_n 0, 1) := by decide +kernel
theorem dX5_blockers_1 : decode cX5_blockers 1 = .ok (.iload_n 1, 1) := by decide +kernel
theorem dX5_blockers_2 : decode cX5_blockers 2 = .ok (.invokevirtual 141, 3) := by decide +kernel
theorem dX5_blockers_5 : decode cX5_blockers 5 = .ok (.ifCond .eq 7, 3) := by decide +kernel
theorem dX5_blockers_8 : decode cX5_blockers 8 = .ok (.iconst 0, 1) := by decide +kernel
theorem dX5_blockers_9 : decode cX5_blockers 9 = .ok (.goto 8, 3) := by decide +kernel
theorem dX5_blockers_12 : decode cX5_blockers 12 = .ok (.aload_n 0, 1) := by decide +kernel
theorem dX5_blockers_13 : decode cX5_blockers 13 = .ok (.iload_n 1, 1) := by decide +kernel
theorem dX5_blockers_14 : decode cX5_blockers 14 = .ok (.invokevirtual 119, 3) := by decide +kernel
theorem dX5_blockers_17 : decode cX5_blockers 17 = .ok (.ireturn, 1) := by decide +kernel
set_option maxRecDepth 20000 in
theorem ggX5_trailerAt_X5_isNoLane : GoodIn wsX5_trailerAt wsX5_isNoLane := goodIn_r _ [7, 8, 9, 10, 6, 11, 17, 18, 19, 20, 21, 22, 23, 24, 25, 26, 27, 28, 29, 30, 31, 32, 33, 34, 35, 36, 37, 38, 39, 40, 41] (by decide +kernel) (by decide +kernel)
set_option maxRecDepth 20000 in
theorem gX5_trailerAt_X5_isNoLane : GoodIn wsX5_trailerAt (wsV RX5 93 RX5 yX5_isNoLane wsX5_isNoLane) := goodIn_app (goodIn_of _ (by decide +kernel)) ggX5_trailerAt_X5_isNoLane
set_option maxRecDepth 20000 in
theorem ggX5_trailerAt_X5_in : GoodIn wsX5_trailerAt wsX5_in := goodIn_r _ [11] (by decide +kernel) (by decide +kernel)
set_option maxRecDepth 20000 in
theorem gX5_trailerAt_X5_in : GoodIn wsX5_trailerAt (va_wsS RX5 73 yX5_in wsX5_in) := goodIn_app (goodIn_of _ (by decide +kernel)) ggX5_trailerAt_X5_in
set_option maxRecDepth 20000 in
theorem ggX5_trailerAt_X5_fails : GoodIn wsX5_trailerAt wsX5_fails := goodIn_r _ [15, 16, 17, 18, 19, 20, 21, 22, 23, 24, 25, 26, 27, 28, 29, 30, 31, 32, 33, 34, 35, 36, 37, 38, 39, 40, 41] (by decide +kernel) (by decide +kernel)
set_option maxRecDepth 20000 in
theorem gX5_trailerAt_X5_fails : GoodIn wsX5_trailerAt (wsV RX5 80 RX5 yX5_fails wsX5_fails) := goodIn_app (goodIn_of _ (by decide +kernel)) ggX5_trailerAt_X5_fails
theorem dX5_trailerAt_0 : decode cX5_trailerAt 0 = .ok (.aload_n 0, 1) := by decide +kernel
theorem dX5_trailerAt_1 : decode cX5_trailerAt 1 = .ok (.aload_n 0, 1) := by decide +kernel
theorem dX5_trailerAt_2 : decode cX5_trailerAt 2 = .ok (.iload_n 1, 1) := by decide +kernel
theorem dX5_trailerAt_3 : decode cX5_trailerAt 3 = .ok (.invokevirtual 93, 3) := by decide +kernel
theorem dX5_trailerAt_6 : decode cX5_trailerAt 6 = .ok (.ifCond .eq 7, 3) := by decide +kernel
theorem dX5_trailerAt_9 : decode cX5_trailerAt 9 = .ok (.iconst 1, 1) := by decide +kernel
theorem dX5_trailerAt_10 : decode cX5_trailerAt 10 = .ok (.goto 24, 3) := by decide +kernel
theorem dX5_trailerAt_13 : decode cX5_trailerAt 13 = .ok (.iload_n 2, 1) := by decide +kernel
theorem dX5_trailerAt_14 : decode cX5_trailerAt 14 = .ok (.iconst 0, 1) := by decide +kernel
theorem dX5_trailerAt_15 : decode cX5_trailerAt 15 = .ok (.aload_n 0, 1) := by decide +kernel
theorem dX5_trailerAt_16 : decode cX5_trailerAt 16 = .ok (.getfield 17, 3) := by decide +kernel
theorem dX5_trailerAt_19 : decode cX5_trailerAt 19 = .ok (.iload_n 1, 1) := by decide +kernel
theorem dX5_trailerAt_20 : decode cX5_trailerAt 20 = .ok (.iaload, 1) := by decide +kernel
theorem dX5_trailerAt_21 : decode cX5_trailerAt 21 = .ok (.iconst 1, 1) := by decide +kernel
theorem dX5_trailerAt_22 : decode cX5_trailerAt 22 = .ok (.isub, 1) := by decide +kernel
theorem dX5_trailerAt_23 : decode cX5_trailerAt 23 = .ok (.invokestatic 73, 3) := by decide +kernel
theorem dX5_trailerAt_26 : decode cX5_trailerAt 26 = .ok (.ifCond .eq 7, 3) := by decide +kernel
theorem dX5_trailerAt_29 : decode cX5_trailerAt 29 = .ok (.iconst 0, 1) := by decide +kernel
theorem dX5_trailerAt_30 : decode cX5_trailerAt 30 = .ok (.goto 4, 3) := by decide +kernel
theorem dX5_trailerAt_33 : decode cX5_trailerAt 33 = .ok (.iconst 2, 1) := by decide +kernel
theorem dX5_trailerAt_34 : decode cX5_trailerAt 34 = .ok (.invokevirtual 80, 3) := by decide +kernel
theorem dX5_trailerAt_37 : decode cX5_trailerAt 37 = .ok (.ifCond .eq 7, 3) := by decide +kernel
theorem dX5_trailerAt_40 : decode cX5_trailerAt 40 = .ok (.iconst 0, 1) := by decide +kernel
theorem dX5_trailerAt_41 : decode cX5_trailerAt 41 = .ok (.goto 22, 3) := by decide +kernel
theorem dX5_trailerAt_44 : decode cX5_trailerAt 44 = .ok (.aload_n 0, 1) := by decide +kernel
theorem dX5_trailerAt_45 : decode cX5_trailerAt 45 = .ok (.getfield 20, 3) := by decide +kernel
theorem dX5_trailerAt_48 : decode cX5_trailerAt 48 = .ok (.iconst 3, 1) := by decide +kernel
theorem dX5_trailerAt_49 : decode cX5_trailerAt 49 = .ok (.iload_n 1, 1) := by decide +kernel
theorem dX5_trailerAt_50 : decode cX5_trailerAt 50 = .ok (.imul, 1) := by decide +kernel
theorem dX5_trailerAt_51 : decode cX5_trailerAt 51 = .ok (.aload_n 0, 1) := by decide +kernel
theorem dX5_trailerAt_52 : decode cX5_trailerAt 52 = .ok (.getfield 17, 3) := by decide +kernel
theorem dX5_trailerAt_55 : decode cX5_trailerAt 55 = .ok (.iload_n 1, 1) := by decide +kernel
theorem dX5_trailerAt_56 : decode cX5_trailerAt 56 = .ok (.iaload, 1) := by decide +kernel
theorem dX5_trailerAt_57 : decode cX5_trailerAt 57 = .ok (.iadd, 1) := by decide +kernel
theorem dX5_trailerAt_58 : decode cX5_trailerAt 58 = .ok (.iconst 1, 1) := by decide +kernel
theorem dX5_trailerAt_59 : decode cX5_trailerAt 59 = .ok (.isub, 1) := by decide +kernel
theorem dX5_trailerAt_60 : decode cX5_trailerAt 60 = .ok (.iload_n 2, 1) := by decide +kernel
theorem dX5_trailerAt_61 : decode cX5_trailerAt 61 = .ok (.isub, 1) := by decide +kernel
theorem dX5_trailerAt_62 : decode cX5_trailerAt 62 = .ok (.iaload, 1) := by decide +kernel
theorem dX5_trailerAt_63 : decode cX5_trailerAt 63 = .ok (.ireturn, 1) := by decide +kernel
set_option maxRecDepth 20000 in
theorem ggX5_freeDoor_X5_isNone : GoodIn wsX5_freeDoor wsX5_isNone := goodIn_r _ [7, 8, 9, 10, 6, 11, 23, 24, 25, 26, 27, 28, 29, 30, 31, 32, 33, 34, 35, 36, 37, 38, 39, 40, 41, 42, 43, 44, 45, 46, 47] (by decide +kernel) (by decide +kernel)
set_option maxRecDepth 20000 in
theorem gX5_freeDoor_X5_isNone : GoodIn wsX5_freeDoor (wsV RX5 90 RX5 yX5_isNone wsX5_isNone) := goodIn_app (goodIn_of _ (by decide +kernel)) ggX5_freeDoor_X5_isNone
set_option maxRecDepth 20000 in
theorem ggX5_freeDoor_X5_fails : GoodIn wsX5_freeDoor wsX5_fails := goodIn_r _ [15, 2, 23, 24, 25, 26, 27, 28, 29, 30, 31, 32, 33, 34, 35, 36, 37, 38, 39, 40, 41, 42, 43, 44, 45, 46, 47] (by decide +kernel) (by decide +kernel)
set_option maxRecDepth 20000 in
theorem gX5_freeDoor_X5_fails : GoodIn wsX5_freeDoor (wsV RX5 80 RX5 yX5_fails wsX5_fails) := goodIn_app (goodIn_of _ (by decide +kernel)) ggX5_freeDoor_X5_fails
set_option maxRecDepth 20000 in
theorem ggX5_freeDoor_X5_canServe : GoodIn wsX5_freeDoor wsX5_canServe := goodIn_ca (goodIn_r _ [19, 20, 21, 22, 23, 24, 25, 26, 27, 28, 29, 30, 31, 32, 33, 34, 35, 36, 37, 38, 39, 40, 41, 42, 43, 44, 45, 46, 47] (by decide +kernel) (by decide +kernel)) (goodIn_sub (fun _ h => List.mem_cons_of_mem _ (List.mem_append_right _ h)) (by decide +kernel))
set_option maxRecDepth 20000 in
theorem gX5_freeDoor_X5_canServe : GoodIn wsX5_freeDoor (wsV RX5 128 RX5 yX5_canServe wsX5_canServe) := goodIn_app (goodIn_of _ (by decide +kernel)) ggX5_freeDoor_X5_canServe
theorem dX5_freeDoor_0 : decode cX5_freeDoor 0 = .ok (.aload_n 0, 1) := by decide +kernel
theorem dX5_freeDoor_1 : decode cX5_freeDoor 1 = .ok (.aload_n 0, 1) := by decide +kernel
theorem dX5_freeDoor_2 : decode cX5_freeDoor 2 = .ok (.iload_n 1, 1) := by decide +kernel
theorem dX5_freeDoor_3 : decode cX5_freeDoor 3 = .ok (.invokevirtual 90, 3) := by decide +kernel
theorem dX5_freeDoor_6 : decode cX5_freeDoor 6 = .ok (.ifCond .eq 7, 3) := by decide +kernel
theorem dX5_freeDoor_9 : decode cX5_freeDoor 9 = .ok (.iconst 1, 1) := by decide +kernel
theorem dX5_freeDoor_10 : decode cX5_freeDoor 10 = .ok (.goto 4, 3) := by decide +kernel
theorem dX5_freeDoor_13 : decode cX5_freeDoor 13 = .ok (.iconst 0, 1) := by decide +kernel
theorem dX5_freeDoor_14 : decode cX5_freeDoor 14 = .ok (.invokevirtual 80, 3) := by decide +kernel
theorem dX5_freeDoor_17 : decode cX5_freeDoor 17 = .ok (.ifCond .eq 5, 3) := by decide +kernel
theorem dX5_freeDoor_20 : decode cX5_freeDoor 20 = .ok (.iconst 0, 1) := by decide +kernel
theorem dX5_freeDoor_21 : decode cX5_freeDoor 21 = .ok (.ireturn, 1) := by decide +kernel
theorem dX5_freeDoor_22 : decode cX5_freeDoor 22 = .ok (.iconst 0, 1) := by decide +kernel
theorem dX5_freeDoor_23 : decode cX5_freeDoor 23 = .ok (.istore_n 2, 1) := by decide +kernel
theorem dX5_freeDoor_24 : decode cX5_freeDoor 24 = .ok (.iload_n 2, 1) := by decide +kernel
theorem dX5_freeDoor_25 : decode cX5_freeDoor 25 = .ok (.aload_n 0, 1) := by decide +kernel
theorem dX5_freeDoor_26 : decode cX5_freeDoor 26 = .ok (.getfield 84, 3) := by decide +kernel
theorem dX5_freeDoor_29 : decode cX5_freeDoor 29 = .ok (.if_icmp .ge 20, 3) := by decide +kernel
theorem dX5_freeDoor_32 : decode cX5_freeDoor 32 = .ok (.aload_n 0, 1) := by decide +kernel
theorem dX5_freeDoor_33 : decode cX5_freeDoor 33 = .ok (.iload_n 2, 1) := by decide +kernel
theorem dX5_freeDoor_34 : decode cX5_freeDoor 34 = .ok (.iload_n 1, 1) := by decide +kernel
theorem dX5_freeDoor_35 : decode cX5_freeDoor 35 = .ok (.invokevirtual 128, 3) := by decide +kernel
theorem dX5_freeDoor_38 : decode cX5_freeDoor 38 = .ok (.ifCond .eq 5, 3) := by decide +kernel
theorem dX5_freeDoor_41 : decode cX5_freeDoor 41 = .ok (.iload_n 2, 1) := by decide +kernel
theorem dX5_freeDoor_42 : decode cX5_freeDoor 42 = .ok (.ireturn, 1) := by decide +kernel
theorem dX5_freeDoor_43 : decode cX5_freeDoor 43 = .ok (.iinc 2 1, 3) := by decide +kernel
theorem dX5_freeDoor_46 : decode cX5_freeDoor 46 = .ok (.goto (-22), 3) := by decide +kernel
theorem dX5_freeDoor_49 : decode cX5_freeDoor 49 = .ok (.aload_n 0, 1) := by decide +kernel
theorem dX5_freeDoor_50 : decode cX5_freeDoor 50 = .ok (.iconst 2, 1) := by decide +kernel
theorem dX5_freeDoor_51 : decode cX5_freeDoor 51 = .ok (.putfield 67, 3) := by decide +kernel
theorem dX5_freeDoor_54 : decode cX5_freeDoor 54 = .ok (.iconst 0, 1) := by decide +kernel
theorem dX5_freeDoor_55 : decode cX5_freeDoor 55 = .ok (.ireturn, 1) := by decide +kernel
set_option maxRecDepth 20000 in
theorem ggX5_isReachedWith_X5_ahead : GoodIn wsX5_isReachedWith wsX5_ahead := goodIn_ca (goodIn_r _ [6, 7, 8, 9, 10, 5, 11, 1, 12, 31, 32, 33, 34, 35, 36, 37, 38, 39, 40, 41, 42, 43, 44, 45, 46, 47, 48, 49, 50, 51, 52, 53, 54, 55] (by decide +kernel) (by decide +kernel)) (goodIn_sub (fun _ h => List.mem_cons_of_mem _ (List.mem_append_right _ h)) (by decide +kernel))
set_option maxRecDepth 20000 in
theorem gX5_isReachedWith_X5_ahead : GoodIn wsX5_isReachedWith (wsV RX5 119 RX5 yX5_ahead wsX5_ahead) := goodIn_app (goodIn_of _ (by decide +kernel)) ggX5_isReachedWith_X5_ahead
set_option maxRecDepth 20000 in
theorem ggX5_isReachedWith_X5_isReachedBehind : GoodIn wsX5_isReachedWith wsX5_isReachedBehind := goodIn_ca (goodIn_r _ [16, 7, 12, 17, 18, 19, 5, 20, 21, 22, 23, 24, 25, 26, 27, 28, 29, 30, 0, 1, 2, 3, 4, 6, 8, 9, 10, 11, 13, 14, 15, 31, 32, 33, 34, 35, 36, 37, 38, 39, 40, 41, 42, 43, 44, 45, 46, 47, 48, 49, 50, 51, 52, 53, 54, 55] (by decide +kernel) (by decide +kernel)) (goodIn_sub (fun _ h => List.mem_cons_of_mem _ (List.mem_append_right _ h)) (by decide +kernel))
set_option maxRecDepth 20000 in
theorem gX5_isReachedWith_X5_isReachedBehind : GoodIn wsX5_isReachedWith (wsV RX5 144 RX5 yX5_isReachedBehind wsX5_isReachedBehind) := goodIn_app (goodIn_of _ (by decide +kernel)) ggX5_isReachedWith_X5_isReachedBehind
theorem dX5_isReachedWith_0 : decode cX5_isReachedWith 0 = .ok (.aload_n 0, 1) := by decide +kernel
theorem dX5_isReachedWith_1 : decode cX5_isReachedWith 1 = .ok (.iload_n 1, 1) := by decide +kernel
theorem dX5_isReachedWith_2 : decode cX5_isReachedWith 2 = .ok (.invokevirtual 119, 3) := by decide +kernel
theorem dX5_isReachedWith_5 : decode cX5_isReachedWith 5 = .ok (.ifCond .ne 5, 3) := by decide +kernel
theorem dX5_isReachedWith_8 : decode cX5_isReachedWith 8 = .ok (.iconst 1, 1) := by decide +kernel
theorem dX5_isReachedWith_9 : decode cX5_isReachedWith 9 = .ok (.ireturn, 1) := by decide +kernel
theorem dX5_isReachedWith_10 : decode cX5_isReachedWith 10 = .ok (.aload_n 0, 1) := by decide +kernel
theorem dX5_isReachedWith_11 : decode cX5_isReachedWith 11 = .ok (.iload_n 1, 1) := by decide +kernel
theorem dX5_isReachedWith_12 : decode cX5_isReachedWith 12 = .ok (.invokevirtual 119, 3) := by decide +kernel
theorem dX5_isReachedWith_15 : decode cX5_isReachedWith 15 = .ok (.iload_n 2, 1) := by decide +kernel
theorem dX5_isReachedWith_16 : decode cX5_isReachedWith 16 = .ok (.if_icmp .le 5, 3) := by decide +kernel
theorem dX5_isReachedWith_19 : decode cX5_isReachedWith 19 = .ok (.iconst 0, 1) := by decide +kernel
theorem dX5_isReachedWith_20 : decode cX5_isReachedWith 20 = .ok (.ireturn, 1) := by decide +kernel
theorem dX5_isReachedWith_21 : decode cX5_isReachedWith 21 = .ok (.iconst 0, 1) := by decide +kernel
theorem dX5_isReachedWith_22 : decode cX5_isReachedWith 22 = .ok (.istore_n 3, 1) := by decide +kernel
theorem dX5_isReachedWith_23 : decode cX5_isReachedWith 23 = .ok (.iconst 0, 1) := by decide +kernel
theorem dX5_isReachedWith_24 : decode cX5_isReachedWith 24 = .ok (.istore 4, 2) := by decide +kernel
theorem dX5_isReachedWith_26 : decode cX5_isReachedWith 26 = .ok (.iload_n 3, 1) := by decide +kernel
theorem dX5_isReachedWith_27 : decode cX5_isReachedWith 27 = .ok (.ifCond .ne 51, 3) := by decide +kernel
theorem dX5_isReachedWith_30 : decode cX5_isReachedWith 30 = .ok (.iload 4, 2) := by decide +kernel
theorem dX5_isReachedWith_32 : decode cX5_isReachedWith 32 = .ok (.aload_n 0, 1) := by decide +kernel
theorem dX5_isReachedWith_33 : decode cX5_isReachedWith 33 = .ok (.getfield 70, 3) := by decide +kernel
theorem dX5_isReachedWith_36 : decode cX5_isReachedWith 36 = .ok (.if_icmp .ge 42, 3) := by decide +kernel
theorem dX5_isReachedWith_39 : decode cX5_isReachedWith 39 = .ok (.iconst 0, 1) := by decide +kernel
theorem dX5_isReachedWith_40 : decode cX5_isReachedWith 40 = .ok (.istore 5, 2) := by decide +kernel
theorem dX5_isReachedWith_42 : decode cX5_isReachedWith 42 = .ok (.iload_n 3, 1) := by decide +kernel
theorem dX5_isReachedWith_43 : decode cX5_isReachedWith 43 = .ok (.ifCond .ne 29, 3) := by decide +kernel
theorem dX5_isReachedWith_46 : decode cX5_isReachedWith 46 = .ok (.iload 5, 2) := by decide +kernel
theorem dX5_isReachedWith_48 : decode cX5_isReachedWith 48 = .ok (.aload_n 0, 1) := by decide +kernel
theorem dX5_isReachedWith_49 : decode cX5_isReachedWith 49 = .ok (.getfield 70, 3) := by decide +kernel
theorem dX5_isReachedWith_52 : decode cX5_isReachedWith 52 = .ok (.if_icmp .ge 20, 3) := by decide +kernel
theorem dX5_isReachedWith_55 : decode cX5_isReachedWith 55 = .ok (.aload_n 0, 1) := by decide +kernel
theorem dX5_isReachedWith_56 : decode cX5_isReachedWith 56 = .ok (.iload_n 1, 1) := by decide +kernel
theorem dX5_isReachedWith_57 : decode cX5_isReachedWith 57 = .ok (.iload 4, 2) := by decide +kernel
theorem dX5_isReachedWith_59 : decode cX5_isReachedWith 59 = .ok (.iload 5, 2) := by decide +kernel
theorem dX5_isReachedWith_61 : decode cX5_isReachedWith 61 = .ok (.iload_n 2, 1) := by decide +kernel
theorem dX5_isReachedWith_62 : decode cX5_isReachedWith 62 = .ok (.invokevirtual 144, 3) := by decide +kernel
theorem dX5_isReachedWith_65 : decode cX5_isReachedWith 65 = .ok (.istore_n 3, 1) := by decide +kernel
theorem dX5_isReachedWith_66 : decode cX5_isReachedWith 66 = .ok (.iinc 5 1, 3) := by decide +kernel
theorem dX5_isReachedWith_69 : decode cX5_isReachedWith 69 = .ok (.goto (-27), 3) := by decide +kernel
theorem dX5_isReachedWith_72 : decode cX5_isReachedWith 72 = .ok (.iinc 4 1, 3) := by decide +kernel
theorem dX5_isReachedWith_75 : decode cX5_isReachedWith 75 = .ok (.goto (-49), 3) := by decide +kernel
theorem dX5_isReachedWith_78 : decode cX5_isReachedWith 78 = .ok (.iload_n 3, 1) := by decide +kernel
theorem dX5_isReachedWith_79 : decode cX5_isReachedWith 79 = .ok (.ireturn, 1) := by decide +kernel
set_option maxRecDepth 20000 in
theorem ggX5_isReachedBehind_X5_canCome : GoodIn wsX5_isReachedBehind wsX5_canCome := goodIn_ca (goodIn_r _ [7, 1, 8, 9, 10, 31, 32, 33, 34, 35, 36, 37, 38, 39, 40, 41, 42, 43, 44, 45, 46, 47, 48, 49, 50, 51, 52, 53, 54, 55] (by decide +kernel) (by decide +kernel)) (goodIn_sub (fun _ h => List.mem_cons_of_mem _ (List.mem_append_right _ h)) (by decide +kernel))
set_option maxRecDepth 20000 in
theorem gX5_isReachedBehind_X5_canCome : GoodIn wsX5_isReachedBehind (wsV RX5 100 RX5 yX5_canCome wsX5_canCome) := goodIn_app (goodIn_of _ (by decide +kernel)) ggX5_isReachedBehind_X5_canCome
set_option maxRecDepth 20000 in
theorem ggX5_isReachedBehind_X5_comes : GoodIn wsX5_isReachedBehind wsX5_comes := goodIn_ca (goodIn_r _ [14, 2, 1, 31, 32, 33, 34, 35, 36, 37, 38, 39, 40, 41, 42, 43, 44, 45, 46, 47, 48, 49, 50, 51, 52, 53, 54, 55] (by decide +kernel) (by decide +kernel)) (goodIn_sub (fun _ h => List.mem_cons_of_mem _ (List.mem_append_right _ h)) (by decide +kernel))
set_option maxRecDepth 20000 in
theorem gX5_isReachedBehind_X5_comes : GoodIn wsX5_isReachedBehind (wsV RX5 104 RX5 yX5_comes wsX5_comes) := goodIn_app (goodIn_of _ (by decide +kernel)) ggX5_isReachedBehind_X5_comes
set_option maxRecDepth 20000 in
theorem ggX5_isReachedBehind_X5_isReachedWith : GoodIn wsX5_isReachedBehind wsX5_isReachedWith := goodIn_ca (goodIn_r _ [18, 19, 20, 21, 22, 6, 23, 1, 24, 25, 26, 27, 2, 28, 29, 30, 0, 3, 4, 5, 7, 8, 9, 10, 11, 12, 13, 14, 15, 16, 17, 31, 32, 33, 34, 35, 36, 37, 38, 39, 40, 41, 42, 43, 44, 45, 46, 47, 48, 49, 50, 51, 52, 53, 54, 55] (by decide +kernel) (by decide +kernel)) (goodIn_sub (fun _ h => List.mem_cons_of_mem _ (List.mem_append_right _ h)) (by decide +kernel))
set_option maxRecDepth 20000 in
theorem gX5_isReachedBehind_X5_isReachedWith : GoodIn wsX5_isReachedBehind (wsV RX5 148 RX5 yX5_isReachedWith wsX5_isReachedWith) := goodIn_app (goodIn_of _ (by decide +kernel)) ggX5_isReachedBehind_X5_isReachedWith
theorem dX5_isReachedBehind_0 : decode cX5_isReachedBehind 0 = .ok (.iload_n 2, 1) := by decide +kernel
theorem dX5_isReachedBehind_1 : decode cX5_isReachedBehind 1 = .ok (.iload_n 3, 1) := by decide +kernel
theorem dX5_isReachedBehind_2 : decode cX5_isReachedBehind 2 = .ok (.if_icmp .eq 12, 3) := by decide +kernel
theorem dX5_isReachedBehind_5 : decode cX5_isReachedBehind 5 = .ok (.aload_n 0, 1) := by decide +kernel
theorem dX5_isReachedBehind_6 : decode cX5_isReachedBehind 6 = .ok (.getfield 17, 3) := by decide +kernel
theorem dX5_isReachedBehind_9 : decode cX5_isReachedBehind 9 = .ok (.iload_n 2, 1) := by decide +kernel
theorem dX5_isReachedBehind_10 : decode cX5_isReachedBehind 10 = .ok (.iaload, 1) := by decide +kernel
theorem dX5_isReachedBehind_11 : decode cX5_isReachedBehind 11 = .ok (.ifCond .ne 5, 3) := by decide +kernel
theorem dX5_isReachedBehind_14 : decode cX5_isReachedBehind 14 = .ok (.iconst 0, 1) := by decide +kernel
theorem dX5_isReachedBehind_15 : decode cX5_isReachedBehind 15 = .ok (.ireturn, 1) := by decide +kernel
theorem dX5_isReachedBehind_16 : decode cX5_isReachedBehind 16 = .ok (.aload_n 0, 1) := by decide +kernel
theorem dX5_isReachedBehind_17 : decode cX5_isReachedBehind 17 = .ok (.getfield 20, 3) := by decide +kernel
theorem dX5_isReachedBehind_20 : decode cX5_isReachedBehind 20 = .ok (.iconst 3, 1) := by decide +kernel
theorem dX5_isReachedBehind_21 : decode cX5_isReachedBehind 21 = .ok (.iload_n 2, 1) := by decide +kernel
theorem dX5_isReachedBehind_22 : decode cX5_isReachedBehind 22 = .ok (.imul, 1) := by decide +kernel
theorem dX5_isReachedBehind_23 : decode cX5_isReachedBehind 23 = .ok (.aload_n 0, 1) := by decide +kernel
theorem dX5_isReachedBehind_24 : decode cX5_isReachedBehind 24 = .ok (.getfield 17, 3) := by decide +kernel
theorem dX5_isReachedBehind_27 : decode cX5_isReachedBehind 27 = .ok (.iload_n 2, 1) := by decide +kernel
theorem dX5_isReachedBehind_28 : decode cX5_isReachedBehind 28 = .ok (.iaload, 1) := by decide +kernel
theorem dX5_isReachedBehind_29 : decode cX5_isReachedBehind 29 = .ok (.iadd, 1) := by decide +kernel
theorem dX5_isReachedBehind_30 : decode cX5_isReachedBehind 30 = .ok (.iconst 1, 1) := by decide +kernel
theorem dX5_isReachedBehind_31 : decode cX5_isReachedBehind 31 = .ok (.isub, 1) := by decide +kernel
theorem dX5_isReachedBehind_32 : decode cX5_isReachedBehind 32 = .ok (.iaload, 1) := by decide +kernel
theorem dX5_isReachedBehind_33 : decode cX5_isReachedBehind 33 = .ok (.istore 5, 2) := by decide +kernel
theorem dX5_isReachedBehind_35 : decode cX5_isReachedBehind 35 = .ok (.iload 5, 2) := by decide +kernel
theorem dX5_isReachedBehind_37 : decode cX5_isReachedBehind 37 = .ok (.iload_n 1, 1) := by decide +kernel
theorem dX5_isReachedBehind_38 : decode cX5_isReachedBehind 38 = .ok (.if_icmp .eq 13, 3) := by decide +kernel
theorem dX5_isReachedBehind_41 : decode cX5_isReachedBehind 41 = .ok (.aload_n 0, 1) := by decide +kernel
theorem dX5_isReachedBehind_42 : decode cX5_isReachedBehind 42 = .ok (.iload 5, 2) := by decide +kernel
theorem dX5_isReachedBehind_44 : decode cX5_isReachedBehind 44 = .ok (.iload_n 3, 1) := by decide +kernel
theorem dX5_isReachedBehind_45 : decode cX5_isReachedBehind 45 = .ok (.invokevirtual 100, 3) := by decide +kernel
theorem dX5_isReachedBehind_48 : decode cX5_isReachedBehind 48 = .ok (.ifCond .ne 5, 3) := by decide +kernel
theorem dX5_isReachedBehind_51 : decode cX5_isReachedBehind 51 = .ok (.iconst 0, 1) := by decide +kernel
theorem dX5_isReachedBehind_52 : decode cX5_isReachedBehind 52 = .ok (.ireturn, 1) := by decide +kernel
theorem dX5_isReachedBehind_53 : decode cX5_isReachedBehind 53 = .ok (.aload_n 0, 1) := by decide +kernel
theorem dX5_isReachedBehind_54 : decode cX5_isReachedBehind 54 = .ok (.getfield 17, 3) := by decide +kernel
theorem dX5_isReachedBehind_57 : decode cX5_isReachedBehind 57 = .ok (.iload_n 2, 1) := by decide +kernel
theorem dX5_isReachedBehind_58 : decode cX5_isReachedBehind 58 = .ok (.dup2, 1) := by decide +kernel
theorem dX5_isReachedBehind_59 : decode cX5_isReachedBehind 59 = .ok (.iaload, 1) := by decide +kernel
theorem dX5_isReachedBehind_60 : decode cX5_isReachedBehind 60 = .ok (.iconst 1, 1) := by decide +kernel
theorem dX5_isReachedBehind_61 : decode cX5_isReachedBehind 61 = .ok (.isub, 1) := by decide +kernel
theorem dX5_isReachedBehind_62 : decode cX5_isReachedBehind 62 = .ok (.iastore, 1) := by decide +kernel
theorem dX5_isReachedBehind_63 : decode cX5_isReachedBehind 63 = .ok (.aload_n 0, 1) := by decide +kernel
theorem dX5_isReachedBehind_64 : decode cX5_isReachedBehind 64 = .ok (.iload 5, 2) := by decide +kernel
theorem dX5_isReachedBehind_66 : decode cX5_isReachedBehind 66 = .ok (.iload_n 3, 1) := by decide +kernel
theorem dX5_isReachedBehind_67 : decode cX5_isReachedBehind 67 = .ok (.invokevirtual 104, 3) := by decide +kernel
theorem dX5_isReachedBehind_70 : decode cX5_isReachedBehind 70 = .ok (.aload_n 0, 1) := by decide +kernel
theorem dX5_isReachedBehind_71 : decode cX5_isReachedBehind 71 = .ok (.iload_n 1, 1) := by decide +kernel
theorem dX5_isReachedBehind_72 : decode cX5_isReachedBehind 72 = .ok (.iload 4, 2) := by decide +kernel
theorem dX5_isReachedBehind_74 : decode cX5_isReachedBehind 74 = .ok (.iconst 1, 1) := by decide +kernel
theorem dX5_isReachedBehind_75 : decode cX5_isReachedBehind 75 = .ok (.isub, 1) := by decide +kernel
theorem dX5_isReachedBehind_76 : decode cX5_isReachedBehind 76 = .ok (.invokevirtual 148, 3) := by decide +kernel
theorem dX5_isReachedBehind_79 : decode cX5_isReachedBehind 79 = .ok (.istore 6, 2) := by decide +kernel
theorem dX5_isReachedBehind_81 : decode cX5_isReachedBehind 81 = .ok (.aload_n 0, 1) := by decide +kernel
theorem dX5_isReachedBehind_82 : decode cX5_isReachedBehind 82 = .ok (.getfield 17, 3) := by decide +kernel
theorem dX5_isReachedBehind_85 : decode cX5_isReachedBehind 85 = .ok (.iload_n 3, 1) := by decide +kernel
theorem dX5_isReachedBehind_86 : decode cX5_isReachedBehind 86 = .ok (.dup2, 1) := by decide +kernel
theorem dX5_isReachedBehind_87 : decode cX5_isReachedBehind 87 = .ok (.iaload, 1) := by decide +kernel
theorem dX5_isReachedBehind_88 : decode cX5_isReachedBehind 88 = .ok (.iconst 1, 1) := by decide +kernel
theorem dX5_isReachedBehind_89 : decode cX5_isReachedBehind 89 = .ok (.isub, 1) := by decide +kernel
theorem dX5_isReachedBehind_90 : decode cX5_isReachedBehind 90 = .ok (.iastore, 1) := by decide +kernel
theorem dX5_isReachedBehind_91 : decode cX5_isReachedBehind 91 = .ok (.aload_n 0, 1) := by decide +kernel
theorem dX5_isReachedBehind_92 : decode cX5_isReachedBehind 92 = .ok (.iload 5, 2) := by decide +kernel
theorem dX5_isReachedBehind_94 : decode cX5_isReachedBehind 94 = .ok (.iload_n 2, 1) := by decide +kernel
theorem dX5_isReachedBehind_95 : decode cX5_isReachedBehind 95 = .ok (.invokevirtual 104, 3) := by decide +kernel
theorem dX5_isReachedBehind_98 : decode cX5_isReachedBehind 98 = .ok (.iload 6, 2) := by decide +kernel
theorem dX5_isReachedBehind_100 : decode cX5_isReachedBehind 100 = .ok (.ireturn, 1) := by decide +kernel
set_option maxRecDepth 20000 in
theorem ggX5_fewest_X5_isElsewhere : GoodIn wsX5_fewest wsX5_isElsewhere := goodIn_ca (goodIn_r _ [6, 7, 8, 9, 10, 5, 11, 12, 13, 14, 15, 16, 17, 18, 19, 1, 50, 51, 52, 53, 54, 55, 56, 57, 58, 59, 60, 61, 62, 63, 64, 65, 66, 67, 68, 69, 70, 71, 72, 73, 74] (by decide +kernel) (by decide +kernel)) (goodIn_sub (fun _ h => List.mem_cons_of_mem _ (List.mem_append_right _ h)) (by decide +kernel))
set_option maxRecDepth 20000 in
theorem gX5_fewest_X5_isElsewhere : GoodIn wsX5_fewest (wsV RX5 141 RX5 yX5_isElsewhere wsX5_isElsewhere) := goodIn_app (goodIn_of _ (by decide +kernel)) ggX5_fewest_X5_isElsewhere
set_option maxRecDepth 20000 in
theorem ggX5_fewest_X5_isReachedWith : GoodIn wsX5_fewest wsX5_isReachedWith := goodIn_ca (goodIn_r _ [23, 24, 25, 26, 27, 5, 28, 29, 30, 31, 32, 33, 34, 35, 36, 37, 38, 39, 40, 41, 42, 43, 44, 45, 46, 47, 48, 49, 20, 21, 22, 50, 51, 52, 53, 54, 55, 56, 57, 58, 59, 60, 61, 62, 63, 64, 65, 66, 67, 68, 69, 70, 71, 72, 73, 74] (by decide +kernel) (by decide +kernel)) (goodIn_sub (fun _ h => List.mem_cons_of_mem _ (List.mem_append_right _ h)) (by decide +kernel))
set_option maxRecDepth 20000 in
theorem gX5_fewest_X5_isReachedWith : GoodIn wsX5_fewest (wsV RX5 148 RX5 yX5_isReachedWith wsX5_isReachedWith) := goodIn_app (goodIn_of _ (by decide +kernel)) ggX5_fewest_X5_isReachedWith
theorem dX5_fewest_0 : decode cX5_fewest 0 = .ok (.aload_n 0, 1) := by decide +kernel
theorem dX5_fewest_1 : decode cX5_fewest 1 = .ok (.iload_n 1, 1) := by decide +kernel
theorem dX5_fewest_2 : decode cX5_fewest 2 = .ok (.invokevirtual 141, 3) := by decide +kernel
theorem dX5_fewest_5 : decode cX5_fewest 5 = .ok (.ifCond .eq 5, 3) := by decide +kernel
theorem dX5_fewest_8 : decode cX5_fewest 8 = .ok (.iconst 0, 1) := by decide +kernel
theorem dX5_fewest_9 : decode cX5_fewest 9 = .ok (.ireturn, 1) := by decide +kernel
theorem dX5_fewest_10 : decode cX5_fewest 10 = .ok (.iconst 0, 1) := by decide +kernel
theorem dX5_fewest_11 : decode cX5_fewest 11 = .ok (.istore_n 2, 1) := by decide +kernel
theorem dX5_fewest_12 : decode cX5_fewest 12 = .ok (.iload_n 2, 1) := by decide +kernel
theorem dX5_fewest_13 : decode cX5_fewest 13 = .ok (.iconst 4, 1) := by decide +kernel
theorem dX5_fewest_14 : decode cX5_fewest 14 = .ok (.if_icmp .gt 20, 3) := by decide +kernel
theorem dX5_fewest_17 : decode cX5_fewest 17 = .ok (.aload_n 0, 1) := by decide +kernel
theorem dX5_fewest_18 : decode cX5_fewest 18 = .ok (.iload_n 1, 1) := by decide +kernel
theorem dX5_fewest_19 : decode cX5_fewest 19 = .ok (.iload_n 2, 1) := by decide +kernel
theorem dX5_fewest_20 : decode cX5_fewest 20 = .ok (.invokevirtual 148, 3) := by decide +kernel
theorem dX5_fewest_23 : decode cX5_fewest 23 = .ok (.ifCond .eq 5, 3) := by decide +kernel
theorem dX5_fewest_26 : decode cX5_fewest 26 = .ok (.iload_n 2, 1) := by decide +kernel
theorem dX5_fewest_27 : decode cX5_fewest 27 = .ok (.ireturn, 1) := by decide +kernel
theorem dX5_fewest_28 : decode cX5_fewest 28 = .ok (.iinc 2 1, 3) := by decide +kernel
theorem dX5_fewest_31 : decode cX5_fewest 31 = .ok (.goto (-19), 3) := by decide +kernel
theorem dX5_fewest_34 : decode cX5_fewest 34 = .ok (.aload_n 0, 1) := by decide +kernel
theorem dX5_fewest_35 : decode cX5_fewest 35 = .ok (.iconst 3, 1) := by decide +kernel
theorem dX5_fewest_36 : decode cX5_fewest 36 = .ok (.putfield 67, 3) := by decide +kernel
theorem dX5_fewest_39 : decode cX5_fewest 39 = .ok (.iconst 0, 1) := by decide +kernel
theorem dX5_fewest_40 : decode cX5_fewest 40 = .ok (.ireturn, 1) := by decide +kernel
set_option maxRecDepth 20000 in
theorem ggX5_fewestMoves_X5_fewest : GoodIn wsX5_fewestMoves wsX5_fewest := goodIn_ca (goodIn_r _ [5, 6, 7, 8, 9, 4, 10, 11, 12, 13, 14, 15, 16, 17, 18, 19, 20, 21, 22, 23, 24, 25, 26, 27, 28, 29, 30, 31, 32, 33, 34, 35, 36, 37, 38, 39, 40, 41, 42, 43, 44, 45, 46, 47, 48, 49, 50, 51, 52, 53, 54, 55, 56, 57, 58, 59, 60, 61, 62, 63, 64, 65, 66, 67, 68, 69, 70, 71, 72, 73, 74, 75, 76, 77, 78] (by decide +kernel) (by decide +kernel)) (goodIn_sub (fun _ h => List.mem_cons_of_mem _ (List.mem_append_right _ h)) (by decide +kernel))
set_option maxRecDepth 20000 in
theorem gX5_fewestMoves_X5_fewest : GoodIn wsX5_fewestMoves (wsV RX5 151 RX5 yX5_fewest wsX5_fewest) := goodIn_app (goodIn_of _ (by decide +kernel)) ggX5_fewestMoves_X5_fewest
theorem dX5_fewestMoves_0 : decode cX5_fewestMoves 0 = .ok (.aload_n 0, 1) := by decide +kernel
theorem dX5_fewestMoves_1 : decode cX5_fewestMoves 1 = .ok (.iload_n 1, 1) := by decide +kernel
theorem dX5_fewestMoves_2 : decode cX5_fewestMoves 2 = .ok (.invokevirtual 151, 3) := by decide +kernel
theorem dX5_fewestMoves_5 : decode cX5_fewestMoves 5 = .ok (.ireturn, 1) := by decide +kernel
set_option maxRecDepth 20000 in
theorem ggX5_fewestByOrders_X5_fewest : GoodIn wsX5_fewestByOrders wsX5_fewest := goodIn_ca (goodIn_r _ [5, 6, 7, 8, 9, 4, 10, 11, 12, 13, 14, 15, 16, 17, 18, 19, 20, 21, 22, 23, 24, 25, 26, 27, 28, 29, 30, 31, 32, 33, 34, 35, 36, 37, 38, 39, 40, 41, 42, 43, 44, 45, 46, 47, 48, 49, 50, 51, 52, 53, 54, 55, 56, 57, 58, 59, 60, 61, 62, 63, 64, 65, 66, 67, 68, 69, 70, 71, 72, 73, 74, 75, 76, 77, 78] (by decide +kernel) (by decide +kernel)) (goodIn_sub (fun _ h => List.mem_cons_of_mem _ (List.mem_append_right _ h)) (by decide +kernel))
set_option maxRecDepth 20000 in
theorem gX5_fewestByOrders_X5_fewest : GoodIn wsX5_fewestByOrders (wsV RX5 151 RX5 yX5_fewest wsX5_fewest) := goodIn_app (goodIn_of _ (by decide +kernel)) ggX5_fewestByOrders_X5_fewest
theorem dX5_fewestByOrders_0 : decode cX5_fewestByOrders 0 = .ok (.aload_n 0, 1) := by decide +kernel
theorem dX5_fewestByOrders_1 : decode cX5_fewestByOrders 1 = .ok (.iload_n 1, 1) := by decide +kernel
theorem dX5_fewestByOrders_2 : decode cX5_fewestByOrders 2 = .ok (.invokevirtual 151, 3) := by decide +kernel
theorem dX5_fewestByOrders_5 : decode cX5_fewestByOrders 5 = .ok (.ireturn, 1) := by decide +kernel
set_option maxRecDepth 20000 in
theorem ggX5_pass_X5_in : GoodIn wsX5_pass wsX5_in := goodIn_r _ [8] (by decide +kernel) (by decide +kernel)
set_option maxRecDepth 20000 in
theorem gX5_pass_X5_in : GoodIn wsX5_pass (va_wsS RX5 73 yX5_in wsX5_in) := goodIn_app (goodIn_of _ (by decide +kernel)) ggX5_pass_X5_in
set_option maxRecDepth 20000 in
theorem ggX5_pass_X5_fails : GoodIn wsX5_pass wsX5_fails := goodIn_r _ [12, 13, 14, 15, 16, 17, 18, 19, 20, 21, 22, 23, 24, 25, 26, 27, 28, 29, 30, 31, 32, 33, 34, 35, 36, 37, 38] (by decide +kernel) (by decide +kernel)
set_option maxRecDepth 20000 in
theorem gX5_pass_X5_fails : GoodIn wsX5_pass (wsV RX5 80 RX5 yX5_fails wsX5_fails) := goodIn_app (goodIn_of _ (by decide +kernel)) ggX5_pass_X5_fails
theorem dX5_pass_0 : decode cX5_pass 0 = .ok (.aload_n 0, 1) := by decide +kernel
theorem dX5_pass_1 : decode cX5_pass 1 = .ok (.iload_n 1, 1) := by decide +kernel
theorem dX5_pass_2 : decode cX5_pass 2 = .ok (.iconst 1, 1) := by decide +kernel
theorem dX5_pass_3 : decode cX5_pass 3 = .ok (.bipush 99, 2) := by decide +kernel
theorem dX5_pass_5 : decode cX5_pass 5 = .ok (.invokestatic 73, 3) := by decide +kernel
theorem dX5_pass_8 : decode cX5_pass 8 = .ok (.ifCond .eq 7, 3) := by decide +kernel
theorem dX5_pass_11 : decode cX5_pass 11 = .ok (.iconst 0, 1) := by decide +kernel
theorem dX5_pass_12 : decode cX5_pass 12 = .ok (.goto 4, 3) := by decide +kernel
theorem dX5_pass_15 : decode cX5_pass 15 = .ok (.iconst 1, 1) := by decide +kernel
theorem dX5_pass_16 : decode cX5_pass 16 = .ok (.invokevirtual 80, 3) := by decide +kernel
theorem dX5_pass_19 : decode cX5_pass 19 = .ok (.ifCond .eq 5, 3) := by decide +kernel
theorem dX5_pass_22 : decode cX5_pass 22 = .ok (.iconst 0, 1) := by decide +kernel
theorem dX5_pass_23 : decode cX5_pass 23 = .ok (.ireturn, 1) := by decide +kernel
theorem dX5_pass_24 : decode cX5_pass 24 = .ok (.iconst 0, 1) := by decide +kernel
theorem dX5_pass_25 : decode cX5_pass 25 = .ok (.istore_n 2, 1) := by decide +kernel
theorem dX5_pass_26 : decode cX5_pass 26 = .ok (.iconst 0, 1) := by decide +kernel
theorem dX5_pass_27 : decode cX5_pass 27 = .ok (.istore_n 3, 1) := by decide +kernel
theorem dX5_pass_28 : decode cX5_pass 28 = .ok (.iload_n 3, 1) := by decide +kernel
theorem dX5_pass_29 : decode cX5_pass 29 = .ok (.iload_n 1, 1) := by decide +kernel
theorem dX5_pass_30 : decode cX5_pass 30 = .ok (.if_icmp .ge 81, 3) := by decide +kernel
theorem dX5_pass_33 : decode cX5_pass 33 = .ok (.aload_n 0, 1) := by decide +kernel
theorem dX5_pass_34 : decode cX5_pass 34 = .ok (.dup, 1) := by decide +kernel
theorem dX5_pass_35 : decode cX5_pass 35 = .ok (.getfield 87, 3) := by decide +kernel
theorem dX5_pass_38 : decode cX5_pass 38 = .ok (.iconst 1, 1) := by decide +kernel
theorem dX5_pass_39 : decode cX5_pass 39 = .ok (.iadd, 1) := by decide +kernel
theorem dX5_pass_40 : decode cX5_pass 40 = .ok (.putfield 87, 3) := by decide +kernel
theorem dX5_pass_43 : decode cX5_pass 43 = .ok (.iconst 0, 1) := by decide +kernel
theorem dX5_pass_44 : decode cX5_pass 44 = .ok (.istore 4, 2) := by decide +kernel
theorem dX5_pass_46 : decode cX5_pass 46 = .ok (.iload 4, 2) := by decide +kernel
theorem dX5_pass_48 : decode cX5_pass 48 = .ok (.aload_n 0, 1) := by decide +kernel
theorem dX5_pass_49 : decode cX5_pass 49 = .ok (.getfield 77, 3) := by decide +kernel
theorem dX5_pass_52 : decode cX5_pass 52 = .ok (.if_icmp .ge 53, 3) := by decide +kernel
theorem dX5_pass_55 : decode cX5_pass 55 = .ok (.aload_n 0, 1) := by decide +kernel
theorem dX5_pass_56 : decode cX5_pass 56 = .ok (.getfield 39, 3) := by decide +kernel
theorem dX5_pass_59 : decode cX5_pass 59 = .ok (.iload 4, 2) := by decide +kernel
theorem dX5_pass_61 : decode cX5_pass 61 = .ok (.caload, 1) := by decide +kernel
theorem dX5_pass_62 : decode cX5_pass 62 = .ok (.bipush 98, 2) := by decide +kernel
theorem dX5_pass_64 : decode cX5_pass 64 = .ok (.if_icmp .ne 35, 3) := by decide +kernel
theorem dX5_pass_67 : decode cX5_pass 67 = .ok (.aload_n 0, 1) := by decide +kernel
theorem dX5_pass_68 : decode cX5_pass 68 = .ok (.getfield 87, 3) := by decide +kernel
theorem dX5_pass_71 : decode cX5_pass 71 = .ok (.aload_n 0, 1) := by decide +kernel
theorem dX5_pass_72 : decode cX5_pass 72 = .ok (.getfield 30, 3) := by decide +kernel
theorem dX5_pass_75 : decode cX5_pass 75 = .ok (.iload 4, 2) := by decide +kernel
theorem dX5_pass_77 : decode cX5_pass 77 = .ok (.iaload, 1) := by decide +kernel
theorem dX5_pass_78 : decode cX5_pass 78 = .ok (.isub, 1) := by decide +kernel
theorem dX5_pass_79 : decode cX5_pass 79 = .ok (.bipush 24, 2) := by decide +kernel
theorem dX5_pass_81 : decode cX5_pass 81 = .ok (.if_icmp .gt 6, 3) := by decide +kernel
theorem dX5_pass_84 : decode cX5_pass 84 = .ok (.goto 15, 3) := by decide +kernel
theorem dX5_pass_87 : decode cX5_pass 87 = .ok (.aload_n 0, 1) := by decide +kernel
theorem dX5_pass_88 : decode cX5_pass 88 = .ok (.getfield 39, 3) := by decide +kernel
theorem dX5_pass_91 : decode cX5_pass 91 = .ok (.iload 4, 2) := by decide +kernel
theorem dX5_pass_93 : decode cX5_pass 93 = .ok (.bipush 110, 2) := by decide +kernel
theorem dX5_pass_95 : decode cX5_pass 95 = .ok (.castore, 1) := by decide +kernel
theorem dX5_pass_96 : decode cX5_pass 96 = .ok (.iinc 2 1, 3) := by decide +kernel
theorem dX5_pass_99 : decode cX5_pass 99 = .ok (.iinc 4 1, 3) := by decide +kernel
theorem dX5_pass_102 : decode cX5_pass 102 = .ok (.goto (-56), 3) := by decide +kernel
theorem dX5_pass_105 : decode cX5_pass 105 = .ok (.iinc 3 1, 3) := by decide +kernel
theorem dX5_pass_108 : decode cX5_pass 108 = .ok (.goto (-80), 3) := by decide +kernel
theorem dX5_pass_111 : decode cX5_pass 111 = .ok (.iload_n 2, 1) := by decide +kernel
theorem dX5_pass_112 : decode cX5_pass 112 = .ok (.ireturn, 1) := by decide +kernel
set_option maxRecDepth 20000 in
theorem ggX5_time_X5_tells : GoodIn wsX5_time wsX5_tells := goodIn_r _ [6, 7, 8, 9, 10, 11, 12, 13, 14, 15, 16, 17, 18, 19, 20, 21, 22, 23, 24, 25, 26, 27, 28, 29, 30, 31, 32] (by decide +kernel) (by decide +kernel)
set_option maxRecDepth 20000 in
theorem gX5_time_X5_tells : GoodIn wsX5_time (wsV RX5 154 RX5 yX5_tells wsX5_tells) := goodIn_app (goodIn_of _ (by decide +kernel)) ggX5_time_X5_tells
theorem dX5_time_0 : decode cX5_time 0 = .ok (.aload_n 0, 1) := by decide +kernel
theorem dX5_time_1 : decode cX5_time 1 = .ok (.aload_n 0, 1) := by decide +kernel
theorem dX5_time_2 : decode cX5_time 2 = .ok (.getfield 87, 3) := by decide +kernel
theorem dX5_time_5 : decode cX5_time 5 = .ok (.invokevirtual 154, 3) := by decide +kernel
theorem dX5_time_8 : decode cX5_time 8 = .ok (.ireturn, 1) := by decide +kernel
set_option maxRecDepth 20000 in
theorem ggX5_waited_X5_hasNotCome : GoodIn wsX5_waited wsX5_hasNotCome := goodIn_ca (goodIn_r _ [5, 6, 7, 8, 9, 4, 10, 11, 12, 13, 14, 15, 16, 17, 18, 19, 28, 29, 30, 31, 32, 33, 34, 35, 36, 37, 38, 39, 40, 41, 42, 43, 44, 45, 46, 47, 48, 49, 50, 51, 52] (by decide +kernel) (by decide +kernel)) (goodIn_sub (fun _ h => List.mem_cons_of_mem _ (List.mem_append_right _ h)) (by decide +kernel))
set_option maxRecDepth 20000 in
theorem gX5_waited_X5_hasNotCome : GoodIn wsX5_waited (wsV RX5 112 RX5 yX5_hasNotCome wsX5_hasNotCome) := goodIn_app (goodIn_of _ (by decide +kernel)) ggX5_waited_X5_hasNotCome
set_option maxRecDepth 20000 in
theorem ggX5_waited_X5_waits : GoodIn wsX5_waited wsX5_waits := goodIn_ca (goodIn_r _ [23, 24, 25, 6, 26, 27, 28, 29, 30, 31, 32, 33, 34, 35, 36, 37, 38, 39, 40, 41, 42, 43, 44, 45, 46, 47, 48, 49, 50, 51, 52] (by decide +kernel) (by decide +kernel)) (goodIn_sub (fun _ h => List.mem_cons_of_mem _ (List.mem_append_right _ h)) (by decide +kernel))
set_option maxRecDepth 20000 in
theorem gX5_waited_X5_waits : GoodIn wsX5_waited (wsV RX5 131 RX5 yX5_waits wsX5_waits) := goodIn_app (goodIn_of _ (by decide +kernel)) ggX5_waited_X5_waits
theorem dX5_waited_0 : decode cX5_waited 0 = .ok (.aload_n 0, 1) := by decide +kernel
theorem dX5_waited_1 : decode cX5_waited 1 = .ok (.iload_n 1, 1) := by decide +kernel
theorem dX5_waited_2 : decode cX5_waited 2 = .ok (.invokevirtual 112, 3) := by decide +kernel
theorem dX5_waited_5 : decode cX5_waited 5 = .ok (.ifCond .eq 7, 3) := by decide +kernel
theorem dX5_waited_8 : decode cX5_waited 8 = .ok (.iconst 0, 1) := by decide +kernel
theorem dX5_waited_9 : decode cX5_waited 9 = .ok (.goto 8, 3) := by decide +kernel
theorem dX5_waited_12 : decode cX5_waited 12 = .ok (.aload_n 0, 1) := by decide +kernel
theorem dX5_waited_13 : decode cX5_waited 13 = .ok (.iload_n 1, 1) := by decide +kernel
theorem dX5_waited_14 : decode cX5_waited 14 = .ok (.invokevirtual 131, 3) := by decide +kernel
theorem dX5_waited_17 : decode cX5_waited 17 = .ok (.ireturn, 1) := by decide +kernel
set_option maxRecDepth 20000 in
theorem ggX5_charge_X5_hasNotCome : GoodIn wsX5_charge wsX5_hasNotCome := goodIn_ca (goodIn_r _ [5, 6, 7, 8, 9, 4, 10, 11, 12, 13, 14, 15, 16, 17, 18, 19, 41, 42, 43, 44, 45, 46, 47, 48, 49, 50, 51, 52, 53, 54, 55, 56, 57, 58, 59, 60, 61, 62, 63, 64, 65] (by decide +kernel) (by decide +kernel)) (goodIn_sub (fun _ h => List.mem_cons_of_mem _ (List.mem_append_right _ h)) (by decide +kernel))
set_option maxRecDepth 20000 in
theorem gX5_charge_X5_hasNotCome : GoodIn wsX5_charge (wsV RX5 112 RX5 yX5_hasNotCome wsX5_hasNotCome) := goodIn_app (goodIn_of _ (by decide +kernel)) ggX5_charge_X5_hasNotCome
set_option maxRecDepth 20000 in
theorem ggX5_charge_X5_costs : GoodIn wsX5_charge wsX5_costs := goodIn_ca (goodIn_r _ [23, 24, 25, 26, 27, 28, 29, 30, 4, 31, 32, 33, 6, 34, 35, 36, 37, 38, 39, 40, 41, 42, 43, 44, 45, 46, 47, 48, 49, 50, 51, 52, 53, 54, 55, 56, 57, 58, 59, 60, 61, 62, 63, 64, 65] (by decide +kernel) (by decide +kernel)) (goodIn_sub (fun _ h => List.mem_cons_of_mem _ (List.mem_append_right _ h)) (by decide +kernel))
set_option maxRecDepth 20000 in
theorem gX5_charge_X5_costs : GoodIn wsX5_charge (wsV RX5 138 RX5 yX5_costs wsX5_costs) := goodIn_app (goodIn_of _ (by decide +kernel)) ggX5_charge_X5_costs
theorem dX5_charge_0 : decode cX5_charge 0 = .ok (.aload_n 0, 1) := by decide +kernel
theorem dX5_charge_1 : decode cX5_charge 1 = .ok (.iload_n 1, 1) := by decide +kernel
theorem dX5_charge_2 : decode cX5_charge 2 = .ok (.invokevirtual 112, 3) := by decide +kernel
theorem dX5_charge_5 : decode cX5_charge 5 = .ok (.ifCond .eq 7, 3) := by decide +kernel
theorem dX5_charge_8 : decode cX5_charge 8 = .ok (.iconst 0, 1) := by decide +kernel
theorem dX5_charge_9 : decode cX5_charge 9 = .ok (.goto 8, 3) := by decide +kernel
theorem dX5_charge_12 : decode cX5_charge 12 = .ok (.aload_n 0, 1) := by decide +kernel
theorem dX5_charge_13 : decode cX5_charge 13 = .ok (.iload_n 1, 1) := by decide +kernel
theorem dX5_charge_14 : decode cX5_charge 14 = .ok (.invokevirtual 138, 3) := by decide +kernel
theorem dX5_charge_17 : decode cX5_charge 17 = .ok (.ireturn, 1) := by decide +kernel
set_option maxRecDepth 20000 in
theorem ggX5_chargeByHours_X5_hasNotCome : GoodIn wsX5_chargeByHours wsX5_hasNotCome := goodIn_ca (goodIn_r _ [5, 6, 7, 8, 9, 4, 10, 11, 12, 13, 14, 15, 16, 17, 18, 19, 41, 42, 43, 44, 45, 46, 47, 48, 49, 50, 51, 52, 53, 54, 55, 56, 57, 58, 59, 60, 61, 62, 63, 64, 65] (by decide +kernel) (by decide +kernel)) (goodIn_sub (fun _ h => List.mem_cons_of_mem _ (List.mem_append_right _ h)) (by decide +kernel))
set_option maxRecDepth 20000 in
theorem gX5_chargeByHours_X5_hasNotCome : GoodIn wsX5_chargeByHours (wsV RX5 112 RX5 yX5_hasNotCome wsX5_hasNotCome) := goodIn_app (goodIn_of _ (by decide +kernel)) ggX5_chargeByHours_X5_hasNotCome
set_option maxRecDepth 20000 in
theorem ggX5_chargeByHours_X5_costs : GoodIn wsX5_chargeByHours wsX5_costs := goodIn_ca (goodIn_r _ [23, 24, 25, 26, 27, 28, 29, 30, 4, 31, 32, 33, 6, 34, 35, 36, 37, 38, 39, 40, 41, 42, 43, 44, 45, 46, 47, 48, 49, 50, 51, 52, 53, 54, 55, 56, 57, 58, 59, 60, 61, 62, 63, 64, 65] (by decide +kernel) (by decide +kernel)) (goodIn_sub (fun _ h => List.mem_cons_of_mem _ (List.mem_append_right _ h)) (by decide +kernel))
set_option maxRecDepth 20000 in
theorem gX5_chargeByHours_X5_costs : GoodIn wsX5_chargeByHours (wsV RX5 138 RX5 yX5_costs wsX5_costs) := goodIn_app (goodIn_of _ (by decide +kernel)) ggX5_chargeByHours_X5_costs
theorem dX5_chargeByHours_0 : decode cX5_chargeByHours 0 = .ok (.aload_n 0, 1) := by decide +kernel
theorem dX5_chargeByHours_1 : decode cX5_chargeByHours 1 = .ok (.iload_n 1, 1) := by decide +kernel
theorem dX5_chargeByHours_2 : decode cX5_chargeByHours 2 = .ok (.invokevirtual 112, 3) := by decide +kernel
theorem dX5_chargeByHours_5 : decode cX5_chargeByHours 5 = .ok (.ifCond .eq 7, 3) := by decide +kernel
theorem dX5_chargeByHours_8 : decode cX5_chargeByHours 8 = .ok (.iconst 0, 1) := by decide +kernel
theorem dX5_chargeByHours_9 : decode cX5_chargeByHours 9 = .ok (.goto 8, 3) := by decide +kernel
theorem dX5_chargeByHours_12 : decode cX5_chargeByHours 12 = .ok (.aload_n 0, 1) := by decide +kernel
theorem dX5_chargeByHours_13 : decode cX5_chargeByHours 13 = .ok (.iload_n 1, 1) := by decide +kernel
theorem dX5_chargeByHours_14 : decode cX5_chargeByHours 14 = .ok (.invokevirtual 138, 3) := by decide +kernel
theorem dX5_chargeByHours_17 : decode cX5_chargeByHours 17 = .ok (.ireturn, 1) := by decide +kernel
set_option maxRecDepth 20000 in
theorem ggX5_moves_X5_tells : GoodIn wsX5_moves wsX5_tells := goodIn_r _ [6, 7, 8, 9, 10, 11, 12, 13, 14, 15, 16, 17, 18, 19, 20, 21, 22, 23, 24, 25, 26, 27, 28, 29, 30, 31, 32] (by decide +kernel) (by decide +kernel)
set_option maxRecDepth 20000 in
theorem gX5_moves_X5_tells : GoodIn wsX5_moves (wsV RX5 154 RX5 yX5_tells wsX5_tells) := goodIn_app (goodIn_of _ (by decide +kernel)) ggX5_moves_X5_tells
theorem dX5_moves_0 : decode cX5_moves 0 = .ok (.aload_n 0, 1) := by decide +kernel
theorem dX5_moves_1 : decode cX5_moves 1 = .ok (.aload_n 0, 1) := by decide +kernel
theorem dX5_moves_2 : decode cX5_moves 2 = .ok (.getfield 125, 3) := by decide +kernel
theorem dX5_moves_5 : decode cX5_moves 5 = .ok (.invokevirtual 154, 3) := by decide +kernel
theorem dX5_moves_8 : decode cX5_moves 8 = .ok (.ireturn, 1) := by decide +kernel
theorem dX5_charged_0 : decode cX5_charged 0 = .ok (.aload_n 0, 1) := by decide +kernel
theorem dX5_charged_1 : decode cX5_charged 1 = .ok (.iconst 0, 1) := by decide +kernel
theorem dX5_charged_2 : decode cX5_charged 2 = .ok (.putfield 67, 3) := by decide +kernel
theorem dX5_charged_5 : decode cX5_charged 5 = .ok (.aload_n 0, 1) := by decide +kernel
theorem dX5_charged_6 : decode cX5_charged 6 = .ok (.getfield 134, 3) := by decide +kernel
theorem dX5_charged_9 : decode cX5_charged 9 = .ok (.lreturn, 1) := by decide +kernel
set_option maxRecDepth 20000 in
theorem ggX5_usedShare_X5_fails : GoodIn wsX5_usedShare wsX5_fails := goodIn_r _ [7, 8, 9, 10, 11, 12, 13, 14, 15, 16, 17, 18, 19, 20, 21, 22, 23, 24, 25, 26, 27, 28, 29, 30, 31, 32, 33] (by decide +kernel) (by decide +kernel)
set_option maxRecDepth 20000 in
theorem gX5_usedShare_X5_fails : GoodIn wsX5_usedShare (wsV RX5 80 RX5 yX5_fails wsX5_fails) := goodIn_app (goodIn_of _ (by decide +kernel)) ggX5_usedShare_X5_fails
theorem dX5_usedShare_0 : decode cX5_usedShare 0 = .ok (.aload_n 0, 1) := by decide +kernel
theorem dX5_usedShare_1 : decode cX5_usedShare 1 = .ok (.aload_n 0, 1) := by decide +kernel
theorem dX5_usedShare_2 : decode cX5_usedShare 2 = .ok (.getfield 84, 3) := by decide +kernel
theorem dX5_usedShare_5 : decode cX5_usedShare 5 = .ok (.ifCond .ne 7, 3) := by decide +kernel
theorem dX5_usedShare_8 : decode cX5_usedShare 8 = .ok (.iconst 1, 1) := by decide +kernel
theorem dX5_usedShare_9 : decode cX5_usedShare 9 = .ok (.goto 4, 3) := by decide +kernel
theorem dX5_usedShare_12 : decode cX5_usedShare 12 = .ok (.iconst 0, 1) := by decide +kernel
theorem dX5_usedShare_13 : decode cX5_usedShare 13 = .ok (.invokevirtual 80, 3) := by decide +kernel
theorem dX5_usedShare_16 : decode cX5_usedShare 16 = .ok (.ifCond .eq 5, 3) := by decide +kernel
theorem dX5_usedShare_19 : decode cX5_usedShare 19 = .ok (.fconst 0, 1) := by decide +kernel
theorem dX5_usedShare_20 : decode cX5_usedShare 20 = .ok (.freturn, 1) := by decide +kernel
theorem dX5_usedShare_21 : decode cX5_usedShare 21 = .ok (.iconst 0, 1) := by decide +kernel
theorem dX5_usedShare_22 : decode cX5_usedShare 22 = .ok (.istore_n 1, 1) := by decide +kernel
theorem dX5_usedShare_23 : decode cX5_usedShare 23 = .ok (.iconst 0, 1) := by decide +kernel
theorem dX5_usedShare_24 : decode cX5_usedShare 24 = .ok (.istore_n 2, 1) := by decide +kernel
theorem dX5_usedShare_25 : decode cX5_usedShare 25 = .ok (.iload_n 2, 1) := by decide +kernel
theorem dX5_usedShare_26 : decode cX5_usedShare 26 = .ok (.aload_n 0, 1) := by decide +kernel
theorem dX5_usedShare_27 : decode cX5_usedShare 27 = .ok (.getfield 84, 3) := by decide +kernel
theorem dX5_usedShare_30 : decode cX5_usedShare 30 = .ok (.if_icmp .ge 26, 3) := by decide +kernel
theorem dX5_usedShare_33 : decode cX5_usedShare 33 = .ok (.iload_n 1, 1) := by decide +kernel
theorem dX5_usedShare_34 : decode cX5_usedShare 34 = .ok (.aload_n 0, 1) := by decide +kernel
theorem dX5_usedShare_35 : decode cX5_usedShare 35 = .ok (.getfield 27, 3) := by decide +kernel
theorem dX5_usedShare_38 : decode cX5_usedShare 38 = .ok (.iload_n 2, 1) := by decide +kernel
theorem dX5_usedShare_39 : decode cX5_usedShare 39 = .ok (.iaload, 1) := by decide +kernel
theorem dX5_usedShare_40 : decode cX5_usedShare 40 = .ok (.ifCond .ge 7, 3) := by decide +kernel
theorem dX5_usedShare_43 : decode cX5_usedShare 43 = .ok (.iconst 0, 1) := by decide +kernel
theorem dX5_usedShare_44 : decode cX5_usedShare 44 = .ok (.goto 4, 3) := by decide +kernel
theorem dX5_usedShare_47 : decode cX5_usedShare 47 = .ok (.iconst 1, 1) := by decide +kernel
theorem dX5_usedShare_48 : decode cX5_usedShare 48 = .ok (.iadd, 1) := by decide +kernel
theorem dX5_usedShare_49 : decode cX5_usedShare 49 = .ok (.istore_n 1, 1) := by decide +kernel
theorem dX5_usedShare_50 : decode cX5_usedShare 50 = .ok (.iinc 2 1, 3) := by decide +kernel
theorem dX5_usedShare_53 : decode cX5_usedShare 53 = .ok (.goto (-28), 3) := by decide +kernel
theorem dX5_usedShare_56 : decode cX5_usedShare 56 = .ok (.iload_n 1, 1) := by decide +kernel
theorem dX5_usedShare_57 : decode cX5_usedShare 57 = .ok (.i2f, 1) := by decide +kernel
theorem dX5_usedShare_58 : decode cX5_usedShare 58 = .ok (.aload_n 0, 1) := by decide +kernel
theorem dX5_usedShare_59 : decode cX5_usedShare 59 = .ok (.getfield 84, 3) := by decide +kernel
theorem dX5_usedShare_62 : decode cX5_usedShare 62 = .ok (.i2f, 1) := by decide +kernel
theorem dX5_usedShare_63 : decode cX5_usedShare 63 = .ok (.fdiv, 1) := by decide +kernel
theorem dX5_usedShare_64 : decode cX5_usedShare 64 = .ok (.freturn, 1) := by decide +kernel
set_option maxRecDepth 20000 in
theorem ggX5_meanWaiting_X5_waits : GoodIn wsX5_meanWaiting wsX5_waits := goodIn_ca (goodIn_r _ [7, 8, 9, 2, 10, 11, 17, 18, 19, 20, 21, 22, 23, 24, 25, 26, 27, 28, 29, 30, 31, 32, 33, 34, 35, 36, 37, 38, 39, 40, 41] (by decide +kernel) (by decide +kernel)) (goodIn_sub (fun _ h => List.mem_cons_of_mem _ (List.mem_append_right _ h)) (by decide +kernel))
set_option maxRecDepth 20000 in
theorem gX5_meanWaiting_X5_waits : GoodIn wsX5_meanWaiting (wsV RX5 131 RX5 yX5_waits wsX5_waits) := goodIn_app (goodIn_of _ (by decide +kernel)) ggX5_meanWaiting_X5_waits
set_option maxRecDepth 20000 in
theorem ggX5_meanWaiting_X5_fails : GoodIn wsX5_meanWaiting wsX5_fails := goodIn_r _ [15, 16, 17, 18, 19, 20, 21, 22, 23, 24, 25, 26, 27, 28, 29, 30, 31, 32, 33, 34, 35, 36, 37, 38, 39, 40, 41] (by decide +kernel) (by decide +kernel)
set_option maxRecDepth 20000 in
theorem gX5_meanWaiting_X5_fails : GoodIn wsX5_meanWaiting (wsV RX5 80 RX5 yX5_fails wsX5_fails) := goodIn_app (goodIn_of _ (by decide +kernel)) ggX5_meanWaiting_X5_fails
theorem dX5_meanWaiting_0 : decode cX5_meanWaiting 0 = .ok (.iconst 0, 1) := by decide +kernel
theorem dX5_meanWaiting_1 : decode cX5_meanWaiting 1 = .ok (.istore_n 1, 1) := by decide +kernel
theorem dX5_meanWaiting_2 : decode cX5_meanWaiting 2 = .ok (.iconst 0, 1) := by decide +kernel
theorem dX5_meanWaiting_3 : decode cX5_meanWaiting 3 = .ok (.istore_n 2, 1) := by decide +kernel
theorem dX5_meanWaiting_4 : decode cX5_meanWaiting 4 = .ok (.iconst 0, 1) := by decide +kernel
theorem dX5_meanWaiting_5 : decode cX5_meanWaiting 5 = .ok (.istore_n 3, 1) := by decide +kernel
theorem dX5_meanWaiting_6 : decode cX5_meanWaiting 6 = .ok (.iload_n 3, 1) := by decide +kernel
theorem dX5_meanWaiting_7 : decode cX5_meanWaiting 7 = .ok (.aload_n 0, 1) := by decide +kernel
theorem dX5_meanWaiting_8 : decode cX5_meanWaiting 8 = .ok (.getfield 77, 3) := by decide +kernel
theorem dX5_meanWaiting_11 : decode cX5_meanWaiting 11 = .ok (.if_icmp .ge 45, 3) := by decide +kernel
theorem dX5_meanWaiting_14 : decode cX5_meanWaiting 14 = .ok (.aload_n 0, 1) := by decide +kernel
theorem dX5_meanWaiting_15 : decode cX5_meanWaiting 15 = .ok (.getfield 39, 3) := by decide +kernel
theorem dX5_meanWaiting_18 : decode cX5_meanWaiting 18 = .ok (.iload_n 3, 1) := by decide +kernel
theorem dX5_meanWaiting_19 : decode cX5_meanWaiting 19 = .ok (.caload, 1) := by decide +kernel
theorem dX5_meanWaiting_20 : decode cX5_meanWaiting 20 = .ok (.bipush 98, 2) := by decide +kernel
theorem dX5_meanWaiting_22 : decode cX5_meanWaiting 22 = .ok (.if_icmp .eq 28, 3) := by decide +kernel
theorem dX5_meanWaiting_25 : decode cX5_meanWaiting 25 = .ok (.aload_n 0, 1) := by decide +kernel
theorem dX5_meanWaiting_26 : decode cX5_meanWaiting 26 = .ok (.getfield 39, 3) := by decide +kernel
theorem dX5_meanWaiting_29 : decode cX5_meanWaiting 29 = .ok (.iload_n 3, 1) := by decide +kernel
theorem dX5_meanWaiting_30 : decode cX5_meanWaiting 30 = .ok (.caload, 1) := by decide +kernel
theorem dX5_meanWaiting_31 : decode cX5_meanWaiting 31 = .ok (.bipush 110, 2) := by decide +kernel
theorem dX5_meanWaiting_33 : decode cX5_meanWaiting 33 = .ok (.if_icmp .ne 6, 3) := by decide +kernel
theorem dX5_meanWaiting_36 : decode cX5_meanWaiting 36 = .ok (.goto 14, 3) := by decide +kernel
theorem dX5_meanWaiting_39 : decode cX5_meanWaiting 39 = .ok (.iload_n 1, 1) := by decide +kernel
theorem dX5_meanWaiting_40 : decode cX5_meanWaiting 40 = .ok (.aload_n 0, 1) := by decide +kernel
theorem dX5_meanWaiting_41 : decode cX5_meanWaiting 41 = .ok (.iload_n 3, 1) := by decide +kernel
theorem dX5_meanWaiting_42 : decode cX5_meanWaiting 42 = .ok (.invokevirtual 131, 3) := by decide +kernel
theorem dX5_meanWaiting_45 : decode cX5_meanWaiting 45 = .ok (.iadd, 1) := by decide +kernel
theorem dX5_meanWaiting_46 : decode cX5_meanWaiting 46 = .ok (.istore_n 1, 1) := by decide +kernel
theorem dX5_meanWaiting_47 : decode cX5_meanWaiting 47 = .ok (.iinc 2 1, 3) := by decide +kernel
theorem dX5_meanWaiting_50 : decode cX5_meanWaiting 50 = .ok (.iinc 3 1, 3) := by decide +kernel
theorem dX5_meanWaiting_53 : decode cX5_meanWaiting 53 = .ok (.goto (-47), 3) := by decide +kernel
theorem dX5_meanWaiting_56 : decode cX5_meanWaiting 56 = .ok (.aload_n 0, 1) := by decide +kernel
theorem dX5_meanWaiting_57 : decode cX5_meanWaiting 57 = .ok (.iload_n 2, 1) := by decide +kernel
theorem dX5_meanWaiting_58 : decode cX5_meanWaiting 58 = .ok (.ifCond .ne 7, 3) := by decide +kernel
theorem dX5_meanWaiting_61 : decode cX5_meanWaiting 61 = .ok (.iconst 1, 1) := by decide +kernel
theorem dX5_meanWaiting_62 : decode cX5_meanWaiting 62 = .ok (.goto 4, 3) := by decide +kernel
theorem dX5_meanWaiting_65 : decode cX5_meanWaiting 65 = .ok (.iconst 0, 1) := by decide +kernel
theorem dX5_meanWaiting_66 : decode cX5_meanWaiting 66 = .ok (.invokevirtual 80, 3) := by decide +kernel
theorem dX5_meanWaiting_69 : decode cX5_meanWaiting 69 = .ok (.ifCond .eq 7, 3) := by decide +kernel
theorem dX5_meanWaiting_72 : decode cX5_meanWaiting 72 = .ok (.dconst 0, 1) := by decide +kernel
theorem dX5_meanWaiting_73 : decode cX5_meanWaiting 73 = .ok (.goto 8, 3) := by decide +kernel
theorem dX5_meanWaiting_76 : decode cX5_meanWaiting 76 = .ok (.iload_n 1, 1) := by decide +kernel
theorem dX5_meanWaiting_77 : decode cX5_meanWaiting 77 = .ok (.i2d, 1) := by decide +kernel
theorem dX5_meanWaiting_78 : decode cX5_meanWaiting 78 = .ok (.iload_n 2, 1) := by decide +kernel
theorem dX5_meanWaiting_79 : decode cX5_meanWaiting 79 = .ok (.i2d, 1) := by decide +kernel
theorem dX5_meanWaiting_80 : decode cX5_meanWaiting 80 = .ok (.ddiv, 1) := by decide +kernel
theorem dX5_meanWaiting_81 : decode cX5_meanWaiting 81 = .ok (.dreturn, 1) := by decide +kernel
end
section
/-! Numbers: an Int32 as the image of an Int; the machine's rows in that form. -/
def iZ (z : Int) : Int32 := Int32.ofInt z
def lZ (z : Int) : Int64 := Int64.ofInt z
abbrev iR (z : Int) : Prop := -2147483648 ≤ z ∧ z < 2147483648
theorem iZ_toInt {z : Int} (h : iR z) : (iZ z).toInt = z := by
  unfold iZ
  rw [Int32.toInt_ofInt]
  have h1 := h.1
  have h2 := h.2
  exact Int.bmod_eq_of_le (n := z) (m := 4294967296) (by omega) (by omega)
theorem iZ_of (x : Int32) : iZ x.toInt = x := by unfold iZ; exact Int32.ofInt_toInt x
theorem iZ_R (x : Int32) : iR x.toInt := by
  have h1 := Int32.le_toInt x
  have h2 := Int32.toInt_lt x
  constructor <;> omega
theorem iZ_ex (x : Int32) : ∃ z : Int, iR z ∧ x = iZ z := ⟨x.toInt, iZ_R x, (iZ_of x).symm⟩
theorem iZ_add (a b : Int) : iZ a + iZ b = iZ (a + b) := by unfold iZ; exact (Int32.ofInt_add a b).symm
theorem iZ_sub (a b : Int) : iZ a - iZ b = iZ (a - b) := by unfold iZ; exact (Int32.ofInt_sub a b).symm
theorem iZ_mul (a b : Int) : iZ a * iZ b = iZ (a * b) := by unfold iZ; exact (Int32.ofInt_mul a b).symm
theorem iZ_neg (a : Int) : - iZ a = iZ (-a) := by unfold iZ; exact (Int32.ofInt_neg a).symm
theorem iZ_lt {a b : Int} (ha : iR a) (hb : iR b) : iZ a < iZ b ↔ a < b := by rw [Int32.lt_iff_toInt_lt, iZ_toInt ha, iZ_toInt hb]
theorem iZ_le {a b : Int} (ha : iR a) (hb : iR b) : iZ a ≤ iZ b ↔ a ≤ b := by rw [Int32.le_iff_toInt_le, iZ_toInt ha, iZ_toInt hb]
theorem iZ_eq {a b : Int} (ha : iR a) (hb : iR b) : iZ a = iZ b ↔ a = b := ⟨fun h => by rw [← iZ_toInt ha, ← iZ_toInt hb, h], fun h => by rw [h]⟩
theorem iZ_0 : iZ 0 = 0 := rfl
theorem iZ_nI (n : Nat) : iZ (n : Int) = nI n := by unfold iZ nI; exact Int32.ofInt_eq_ofNat
theorem iZ_cl {j : Int} (hR : iR j) : (iZ j).toNatClampNeg = j.toNat := by
  show (iZ j).toInt.toNat = _
  rw [iZ_toInt hR]
theorem iZ_in {j : Int} {n : Nat} (h0 : 0 ≤ j) (h : j < n) (hR : iR j) : vp_in (iZ j) n := by
  intro q
  rcases q with q | q
  · have := (iZ_lt (b := 0) hR (by decide)).mp (by rw [iZ_0]; exact q)
    omega
  · rw [iZ_cl hR] at q
    omega
theorem iZ_div {a b : Int} (ha : 0 ≤ a) (ha2 : a < 2147483648) (hb : 0 < b) (hb2 : b < 2147483648) : iZ a / iZ b = iZ (a / b) := by
  obtain ⟨n, rfl⟩ := Int.eq_ofNat_of_zero_le ha
  obtain ⟨k, rfl⟩ := Int.eq_ofNat_of_zero_le (Int.le_of_lt hb)
  rw [iZ_nI, iZ_nI, pk_div (by omega) (by omega) (by omega), ← iZ_nI]
  rfl
theorem iZ_rem {a b : Int} (ha : 0 ≤ a) (ha2 : a < 2147483648) (hb : 0 < b) (hb2 : b < 2147483648) : iZ a - iZ a / iZ b * iZ b = iZ (a % b) := by
  rw [iZ_div ha ha2 hb hb2, iZ_mul, iZ_sub]
  congr 1
  have := Int.mul_ediv_add_emod a b
  have h2 : b * (a / b) = a / b * b := Int.mul_comm _ _
  omega
theorem iZ_narc {z : Int} (h0 : 0 ≤ z) (h : z < 65536) : narrow .char (.int (iZ z)) = .int (iZ z) ∧ fits .char (.int (iZ z)) = true := by
  obtain ⟨n, rfl⟩ := Int.eq_ofNat_of_zero_le h0
  rw [iZ_nI]
  exact pk_charN (by omega)
theorem iZ_vc {z : Int} (h0 : 0 ≤ z) (h : z < 65536) : vp_nar .char (iZ z) = iZ z := by
  unfold vp_nar
  rw [(iZ_narc h0 h).1]
theorem iZ_narz {z : Int} (h0 : 0 ≤ z) (h : z < 2) : narrow .boolean (.int (iZ z)) = .int (iZ z) ∧ fits .boolean (.int (iZ z)) = true := by
  have : z = 0 ∨ z = 1 := by omega
  rcases this with rfl | rfl <;> exact ⟨by decide, by decide⟩
theorem iZ_vz {z : Int} (h0 : 0 ≤ z) (h : z < 2) : vp_nar .boolean (iZ z) = iZ z := by
  unfold vp_nar
  rw [(iZ_narz h0 h).1]
theorem lZ_add (a b : Int) : lZ a + lZ b = lZ (a + b) := by unfold lZ; exact (Int64.ofInt_add a b).symm
theorem lZ_i {z : Int} (h : iR z) : (iZ z).toInt64 = lZ z := by
  apply Int64.toInt_inj.mp
  rw [Int32.toInt_toInt64, iZ_toInt h]
  unfold lZ
  rw [Int64.toInt_ofInt]
  have h1 := h.1
  have h2 := h.2
  exact (Int.bmod_eq_of_le (n := z) (m := 18446744073709551616) (by omega) (by omega)).symm
section ZR
variable {p : Program} {l : Launch} {e : Env} {R : Room} {s : State} {m : MethodId} {args : Array Value} {below : List Frame} {meth : Method} {c : Code} {H : Heap} {locs : List Loc} {cells slots : Nat} {Q : State → Prop} {cc : ByteArray} {pc : Nat} {ls : Array Slot} {rest : List Value}

theorem z_iconst (hexec : p.tables.exec = Jvm.exec) (hb : c.code = cc) {n : Int} (hdg : decode cc pc = .ok (.iconst n, 1)) (k : W p l e R s m args below meth c H locs cells slots Q (F0 m (pc + 1) ls (.int (iZ n) :: rest))) : W p l e R s m args below meth c H locs cells slots Q (F0 m pc ls rest) := lv_iconst hexec hb hdg rfl k
theorem z_bipush (hexec : p.tables.exec = Jvm.exec) (hb : c.code = cc) {n : Int} (hdg : decode cc pc = .ok (.bipush n, 2)) (hv : (Int8.ofInt n).toInt32 = iZ n) (k : W p l e R s m args below meth c H locs cells slots Q (F0 m (pc + 2) ls (.int (iZ n) :: rest))) : W p l e R s m args below meth c H locs cells slots Q (F0 m pc ls rest) := lv_bipush hexec hb hdg hv k
theorem z_sipush (hexec : p.tables.exec = Jvm.exec) (hb : c.code = cc) {n : Int} (hdg : decode cc pc = .ok (.sipush n, 3)) (hv : (Int16.ofInt n).toInt32 = iZ n) (k : W p l e R s m args below meth c H locs cells slots Q (F0 m (pc + 3) ls (.int (iZ n) :: rest))) : W p l e R s m args below meth c H locs cells slots Q (F0 m pc ls rest) := lv_sipush hexec hb hdg hv k
theorem z_iadd (hexec : p.tables.exec = Jvm.exec) (hb : c.code = cc) {a b : Int} (hdg : decode cc pc = .ok (.iadd, 1)) (k : W p l e R s m args below meth c H locs cells slots Q (F0 m (pc + 1) ls (.int (iZ (a + b)) :: rest))) : W p l e R s m args below meth c H locs cells slots Q (F0 m pc ls (.int (iZ b) :: .int (iZ a) :: rest)) := lv_iadd hexec hb hdg (by rw [iZ_add]; exact k)
theorem z_isub (hexec : p.tables.exec = Jvm.exec) (hb : c.code = cc) {a b : Int} (hdg : decode cc pc = .ok (.isub, 1)) (k : W p l e R s m args below meth c H locs cells slots Q (F0 m (pc + 1) ls (.int (iZ (a - b)) :: rest))) : W p l e R s m args below meth c H locs cells slots Q (F0 m pc ls (.int (iZ b) :: .int (iZ a) :: rest)) := lv_isub hexec hb hdg (by rw [iZ_sub]; exact k)
theorem z_imul (hexec : p.tables.exec = Jvm.exec) (hb : c.code = cc) {a b : Int} (hdg : decode cc pc = .ok (.imul, 1)) (k : W p l e R s m args below meth c H locs cells slots Q (F0 m (pc + 1) ls (.int (iZ (a * b)) :: rest))) : W p l e R s m args below meth c H locs cells slots Q (F0 m pc ls (.int (iZ b) :: .int (iZ a) :: rest)) := lv_imul hexec hb hdg (by rw [iZ_mul]; exact k)
theorem z_ineg (hexec : p.tables.exec = Jvm.exec) (hb : c.code = cc) {a : Int} (hdg : decode cc pc = .ok (.ineg, 1)) (k : W p l e R s m args below meth c H locs cells slots Q (F0 m (pc + 1) ls (.int (iZ (-a)) :: rest))) : W p l e R s m args below meth c H locs cells slots Q (F0 m pc ls (.int (iZ a) :: rest)) := lv_ineg hexec hb hdg (by rw [iZ_neg]; exact k)
theorem z_idiv (hexec : p.tables.exec = Jvm.exec) (hb : c.code = cc) {a b : Int} (hdg : decode cc pc = .ok (.idiv, 1)) (ha : 0 ≤ a) (ha2 : a < 2147483648) (hb1 : 0 < b) (hb2 : b < 2147483648) (k : W p l e R s m args below meth c H locs cells slots Q (F0 m (pc + 1) ls (.int (iZ (a / b)) :: rest))) : W p l e R s m args below meth c H locs cells slots Q (F0 m pc ls (.int (iZ b) :: .int (iZ a) :: rest)) := lv_idiv hexec hb hdg (fun q => by have := (iZ_eq (b := 0) ⟨by omega, hb2⟩ (by decide)).mp q; omega) (by rw [iZ_div ha ha2 hb1 hb2]; exact k)
theorem z_irem (hexec : p.tables.exec = Jvm.exec) (hb : c.code = cc) {a b : Int} (hdg : decode cc pc = .ok (.irem, 1)) (ha : 0 ≤ a) (ha2 : a < 2147483648) (hb1 : 0 < b) (hb2 : b < 2147483648) (k : W p l e R s m args below meth c H locs cells slots Q (F0 m (pc + 1) ls (.int (iZ (a % b)) :: rest))) : W p l e R s m args below meth c H locs cells slots Q (F0 m pc ls (.int (iZ b) :: .int (iZ a) :: rest)) := lv_irem hexec hb hdg (fun q => by have := (iZ_eq (b := 0) ⟨by omega, hb2⟩ (by decide)).mp q; omega) (by rw [iZ_rem ha ha2 hb1 hb2]; exact k)
theorem z_icmp_eq (hexec : p.tables.exec = Jvm.exec) (hb : c.code = cc) {a b : Int} {off : Int} {tgt : Nat} (hdg : decode cc pc = .ok (.if_icmp .eq off, 3)) (ht : (pc : Int) + off = (tgt : Int)) (ha : iR a) (hb2 : iR b) (kt : a = b → W p l e R s m args below meth c H locs cells slots Q (F0 m tgt ls rest)) (kf : ¬ a = b → W p l e R s m args below meth c H locs cells slots Q (F0 m (pc + 3) ls rest)) : W p l e R s m args below meth c H locs cells slots Q (F0 m pc ls (.int (iZ b) :: .int (iZ a) :: rest)) := lv_icmp_eq hexec hb hdg ht (fun q => kt ((iZ_eq ha hb2).mp q)) (fun q => kf (fun z => q ((iZ_eq ha hb2).mpr z)))
theorem z_if_eq (hexec : p.tables.exec = Jvm.exec) (hb : c.code = cc) {a : Int} {off : Int} {tgt : Nat} (hdg : decode cc pc = .ok (.ifCond .eq off, 3)) (ht : (pc : Int) + off = (tgt : Int)) (ha : iR a) (kt : a = 0 → W p l e R s m args below meth c H locs cells slots Q (F0 m tgt ls rest)) (kf : ¬ a = 0 → W p l e R s m args below meth c H locs cells slots Q (F0 m (pc + 3) ls rest)) : W p l e R s m args below meth c H locs cells slots Q (F0 m pc ls (.int (iZ a) :: rest)) := by
  have hb2 : iR 0 := by decide
  exact lv_if_eq hexec hb hdg ht (fun q => kt ((iZ_eq ha hb2).mp q)) (fun q => kf (fun z => q ((iZ_eq ha hb2).mpr z)))
theorem z_icmp_ne (hexec : p.tables.exec = Jvm.exec) (hb : c.code = cc) {a b : Int} {off : Int} {tgt : Nat} (hdg : decode cc pc = .ok (.if_icmp .ne off, 3)) (ht : (pc : Int) + off = (tgt : Int)) (ha : iR a) (hb2 : iR b) (kt : ¬ a = b → W p l e R s m args below meth c H locs cells slots Q (F0 m tgt ls rest)) (kf : a = b → W p l e R s m args below meth c H locs cells slots Q (F0 m (pc + 3) ls rest)) : W p l e R s m args below meth c H locs cells slots Q (F0 m pc ls (.int (iZ b) :: .int (iZ a) :: rest)) := lv_icmp_ne hexec hb hdg ht (fun q => kt (fun z => q ((iZ_eq ha hb2).mpr z))) (fun q => kf ((iZ_eq ha hb2).mp q))
theorem z_if_ne (hexec : p.tables.exec = Jvm.exec) (hb : c.code = cc) {a : Int} {off : Int} {tgt : Nat} (hdg : decode cc pc = .ok (.ifCond .ne off, 3)) (ht : (pc : Int) + off = (tgt : Int)) (ha : iR a) (kt : ¬ a = 0 → W p l e R s m args below meth c H locs cells slots Q (F0 m tgt ls rest)) (kf : a = 0 → W p l e R s m args below meth c H locs cells slots Q (F0 m (pc + 3) ls rest)) : W p l e R s m args below meth c H locs cells slots Q (F0 m pc ls (.int (iZ a) :: rest)) := by
  have hb2 : iR 0 := by decide
  exact lv_if_ne hexec hb hdg ht (fun q => kt (fun z => q ((iZ_eq ha hb2).mpr z))) (fun q => kf ((iZ_eq ha hb2).mp q))
theorem z_icmp_lt (hexec : p.tables.exec = Jvm.exec) (hb : c.code = cc) {a b : Int} {off : Int} {tgt : Nat} (hdg : decode cc pc = .ok (.if_icmp .lt off, 3)) (ht : (pc : Int) + off = (tgt : Int)) (ha : iR a) (hb2 : iR b) (kt : a < b → W p l e R s m args below meth c H locs cells slots Q (F0 m tgt ls rest)) (kf : b ≤ a → W p l e R s m args below meth c H locs cells slots Q (F0 m (pc + 3) ls rest)) : W p l e R s m args below meth c H locs cells slots Q (F0 m pc ls (.int (iZ b) :: .int (iZ a) :: rest)) := lv_icmp_lt hexec hb hdg ht (fun q => kt ((iZ_lt ha hb2).mp q)) (fun q => kf (Int.not_lt.mp fun z => q ((iZ_lt ha hb2).mpr z)))
theorem z_if_lt (hexec : p.tables.exec = Jvm.exec) (hb : c.code = cc) {a : Int} {off : Int} {tgt : Nat} (hdg : decode cc pc = .ok (.ifCond .lt off, 3)) (ht : (pc : Int) + off = (tgt : Int)) (ha : iR a) (kt : a < 0 → W p l e R s m args below meth c H locs cells slots Q (F0 m tgt ls rest)) (kf : 0 ≤ a → W p l e R s m args below meth c H locs cells slots Q (F0 m (pc + 3) ls rest)) : W p l e R s m args below meth c H locs cells slots Q (F0 m pc ls (.int (iZ a) :: rest)) := by
  have hb2 : iR 0 := by decide
  exact lv_if_lt hexec hb hdg ht (fun q => kt ((iZ_lt ha hb2).mp q)) (fun q => kf (Int.not_lt.mp fun z => q ((iZ_lt ha hb2).mpr z)))
theorem z_icmp_ge (hexec : p.tables.exec = Jvm.exec) (hb : c.code = cc) {a b : Int} {off : Int} {tgt : Nat} (hdg : decode cc pc = .ok (.if_icmp .ge off, 3)) (ht : (pc : Int) + off = (tgt : Int)) (ha : iR a) (hb2 : iR b) (kt : b ≤ a → W p l e R s m args below meth c H locs cells slots Q (F0 m tgt ls rest)) (kf : a < b → W p l e R s m args below meth c H locs cells slots Q (F0 m (pc + 3) ls rest)) : W p l e R s m args below meth c H locs cells slots Q (F0 m pc ls (.int (iZ b) :: .int (iZ a) :: rest)) := lv_icmp_ge hexec hb hdg ht (fun q => kt ((iZ_le hb2 ha).mp q)) (fun q => kf (Int.not_le.mp fun z => q ((iZ_le hb2 ha).mpr z)))
theorem z_if_ge (hexec : p.tables.exec = Jvm.exec) (hb : c.code = cc) {a : Int} {off : Int} {tgt : Nat} (hdg : decode cc pc = .ok (.ifCond .ge off, 3)) (ht : (pc : Int) + off = (tgt : Int)) (ha : iR a) (kt : 0 ≤ a → W p l e R s m args below meth c H locs cells slots Q (F0 m tgt ls rest)) (kf : a < 0 → W p l e R s m args below meth c H locs cells slots Q (F0 m (pc + 3) ls rest)) : W p l e R s m args below meth c H locs cells slots Q (F0 m pc ls (.int (iZ a) :: rest)) := by
  have hb2 : iR 0 := by decide
  exact lv_if_ge hexec hb hdg ht (fun q => kt ((iZ_le hb2 ha).mp q)) (fun q => kf (Int.not_le.mp fun z => q ((iZ_le hb2 ha).mpr z)))
theorem z_icmp_gt (hexec : p.tables.exec = Jvm.exec) (hb : c.code = cc) {a b : Int} {off : Int} {tgt : Nat} (hdg : decode cc pc = .ok (.if_icmp .gt off, 3)) (ht : (pc : Int) + off = (tgt : Int)) (ha : iR a) (hb2 : iR b) (kt : b < a → W p l e R s m args below meth c H locs cells slots Q (F0 m tgt ls rest)) (kf : a ≤ b → W p l e R s m args below meth c H locs cells slots Q (F0 m (pc + 3) ls rest)) : W p l e R s m args below meth c H locs cells slots Q (F0 m pc ls (.int (iZ b) :: .int (iZ a) :: rest)) := lv_icmp_gt hexec hb hdg ht (fun q => kt ((iZ_lt hb2 ha).mp q)) (fun q => kf (Int.not_lt.mp fun z => q ((iZ_lt hb2 ha).mpr z)))
theorem z_if_gt (hexec : p.tables.exec = Jvm.exec) (hb : c.code = cc) {a : Int} {off : Int} {tgt : Nat} (hdg : decode cc pc = .ok (.ifCond .gt off, 3)) (ht : (pc : Int) + off = (tgt : Int)) (ha : iR a) (kt : 0 < a → W p l e R s m args below meth c H locs cells slots Q (F0 m tgt ls rest)) (kf : a ≤ 0 → W p l e R s m args below meth c H locs cells slots Q (F0 m (pc + 3) ls rest)) : W p l e R s m args below meth c H locs cells slots Q (F0 m pc ls (.int (iZ a) :: rest)) := by
  have hb2 : iR 0 := by decide
  exact lv_if_gt hexec hb hdg ht (fun q => kt ((iZ_lt hb2 ha).mp q)) (fun q => kf (Int.not_lt.mp fun z => q ((iZ_lt hb2 ha).mpr z)))
theorem z_icmp_le (hexec : p.tables.exec = Jvm.exec) (hb : c.code = cc) {a b : Int} {off : Int} {tgt : Nat} (hdg : decode cc pc = .ok (.if_icmp .le off, 3)) (ht : (pc : Int) + off = (tgt : Int)) (ha : iR a) (hb2 : iR b) (kt : a ≤ b → W p l e R s m args below meth c H locs cells slots Q (F0 m tgt ls rest)) (kf : b < a → W p l e R s m args below meth c H locs cells slots Q (F0 m (pc + 3) ls rest)) : W p l e R s m args below meth c H locs cells slots Q (F0 m pc ls (.int (iZ b) :: .int (iZ a) :: rest)) := lv_icmp_le hexec hb hdg ht (fun q => kt ((iZ_le ha hb2).mp q)) (fun q => kf (Int.not_le.mp fun z => q ((iZ_le ha hb2).mpr z)))
theorem z_if_le (hexec : p.tables.exec = Jvm.exec) (hb : c.code = cc) {a : Int} {off : Int} {tgt : Nat} (hdg : decode cc pc = .ok (.ifCond .le off, 3)) (ht : (pc : Int) + off = (tgt : Int)) (ha : iR a) (kt : a ≤ 0 → W p l e R s m args below meth c H locs cells slots Q (F0 m tgt ls rest)) (kf : 0 < a → W p l e R s m args below meth c H locs cells slots Q (F0 m (pc + 3) ls rest)) : W p l e R s m args below meth c H locs cells slots Q (F0 m pc ls (.int (iZ a) :: rest)) := by
  have hb2 : iR 0 := by decide
  exact lv_if_le hexec hb hdg ht (fun q => kt ((iZ_le ha hb2).mp q)) (fun q => kf (Int.not_le.mp fun z => q ((iZ_le ha hb2).mpr z)))
theorem z_iinc (hexec : p.tables.exec = Jvm.exec) (hb : c.code = cc) {i nL k : Nat} {n : Int} {a : Int} {lv lv' : List (Nat × Value)} (hdg : decode cc pc = .ok (.iinc i n, 3)) (h : lv_has ls nL lv) (hk : lv[k]? = some (i, .int (iZ a))) (hn : i < nL) (hl : (i, Value.int (iZ (a + n))) :: lv.filter (fun q => !(q.1 == i) && !(q.1 + 1 == i && q.2.category == 2)) = lv') (kk : ∀ ls' : Array Slot, lv_has ls' nL lv' → W p l e R s m args below meth c H locs cells slots Q (F0 m (pc + 3) ls' rest)) : W p l e R s m args below meth c H locs cells slots Q (F0 m pc ls rest) := lv_iinc hexec hb hdg h hk (iZ_add a n) hn hl kk
theorem z_i2l (hexec : p.tables.exec = Jvm.exec) (hb : c.code = cc) {a : Int} (hdg : decode cc pc = .ok (.i2l, 1)) (ha : iR a) (k : W p l e R s m args below meth c H locs cells slots Q (F0 m (pc + 1) ls (.long (lZ a) :: rest))) : W p l e R s m args below meth c H locs cells slots Q (F0 m pc ls (.int (iZ a) :: rest)) := lv_i2l hexec hb hdg (lZ_i ha) k
theorem z_ladd (hexec : p.tables.exec = Jvm.exec) (hb : c.code = cc) {a b : Int} (hdg : decode cc pc = .ok (.ladd, 1)) (k : W p l e R s m args below meth c H locs cells slots Q (F0 m (pc + 1) ls (.long (lZ (a + b)) :: rest))) : W p l e R s m args below meth c H locs cells slots Q (F0 m pc ls (.long (lZ b) :: .long (lZ a) :: rest)) := lv_ladd hexec hb hdg (by rw [lZ_add]; exact k)
end ZR
end
section
/-! A typed store: a system of objects and arrays, kind by kind, index by index; its contents as whole numbers.
S κ i k: what stands at place k of the object (array) i of kind κ: an int or a long as its number, a reference as the index of its object in the kind that the place's type names, null as a number below 0. -/
abbrev ts_St : Type := Nat → Nat → Nat → Int
abbrev ts_Am : Type := Nat → Nat → Nat
abbrev ts_W : Type := (Nat → Nat) × ts_Am × ts_St
/-- a kind: an object (its class's place in the list of classes, its fields' types) or an array (length, its elements' type, its elements' type for the machine); types: 0 int, 1 long, k + 2 a reference to kind k -/
abbrev ts_Tab : Type := Nat → (Nat × List Nat) ⊕ (Nat × Nat × FieldType)
def ts_R (am : ts_Am) (k : Nat) (z : Int) : Option Nat := if z < 0 then none else some (am k z.toNat)
def ts_V (am : ts_Am) (t : Nat) (z : Int) : Value := match t with
  | 0 => .int (iZ z)
  | 1 => .long (lZ z)
  | k + 2 => va_rf (ts_R am k z)
def ts_L (am : ts_Am) (f : Nat → Int) : Nat → List Nat → List Value
  | _, [] => []
  | k, t :: ts => ts_V am t (f k) :: ts_L am f (k + 1) ts
def ts_F (am : ts_Am) (t : Nat) (f : Nat → Int) : (Nat → Int32) ⊕ (Nat → Int64) ⊕ (Nat → UInt32) ⊕ (Nat → UInt64) ⊕ (Nat → Option Nat) := match t with
  | 0 => .inl (fun j => iZ (f j))
  | 1 => .inr (.inl (fun j => lZ (f j)))
  | k + 2 => .inr (.inr (.inr (.inr (fun j => ts_R am k (f j)))))
def ts_E (tab : ts_Tab) (cA : Nat → ClassId) (am : ts_Am) (S : ts_St) (κ i : Nat) : va_E := match tab κ with
  | .inl q => .inr (q.1, ts_L am (S κ i) 0 q.2)
  | .inr q => .inl (cA κ, q.1, ts_F am q.2.1 (S κ i))
def ts_ty (tab : ts_Tab) (κ k : Nat) : Option Nat := match tab κ with
  | .inl q => q.2[k]?
  | .inr q => some q.2.1
abbrev ts_bd (z : Int) : Prop := -1000000000 ≤ z ∧ z ≤ 1000000000
/-- numbers within bounds; references point at objects that are there -/
def ts_ok (tab : ts_Tab) (n : Nat → Nat) (S : ts_St) : Prop := (∀ κ i k : Nat, ts_ty tab κ k ≠ some 1 → ts_bd (S κ i k)) ∧ ∀ κ i k t : Nat, i < n κ → ts_ty tab κ k = some (t + 2) → -1 ≤ S κ i k ∧ S κ i k < (n t : Int)
def ts_P (tab : ts_Tab) (D : va_G) (cA : Nat → ClassId) (u : ts_W) (H : Heap) : Prop :=
  (∀ κ i : Nat, i < u.1 κ → va_at D vwCl (u.2.1 κ i, ts_E tab cA u.2.1 u.2.2 κ i) H) ∧ (∀ κ i κ' i' : Nat, i < u.1 κ → i' < u.1 κ' → u.2.1 κ i = u.2.1 κ' i' → κ = κ' ∧ i = i') ∧ ts_ok tab u.1 u.2.2
def ts_K (tab : ts_Tab) (D : va_G) (cA : Nat → ClassId) (U : State) : Prop := va_K D vwCl [] U ∧ ∀ (κ : Nat) (q : Nat × Nat × FieldType), tab κ = .inr q → ArrOfT U (cA κ) q.2.2 ∧ va_RA U (cA κ) q.2.2
/-- the cells of a store, and all that come behind -/
def ts_A (u : ts_W) (sz : Nat) : Nat → Prop := fun q => (∃ κ i : Nat, i < u.1 κ ∧ q = u.2.1 κ i) ∨ sz ≤ q
/-- the store inside a method's walk -/
def ts_I (tab : ts_Tab) (D : va_G) (cA : Nat → ClassId) (A : Nat → Prop) (H0 : Heap) (u : ts_W) (H : Heap) (locs : List Loc) : Prop := ts_P tab D cA u H ∧ (∀ q, ts_A u H.size q → A q) ∧ va_S A H0 H locs
def up3 (S : ts_St) (κ i k : Nat) (v : Int) : ts_St := fun a b c => if a = κ ∧ b = i ∧ c = k then v else S a b c
def up2 (S : ts_St) (κ i : Nat) (f : Nat → Int) : ts_St := fun a b c => if a = κ ∧ b = i then f c else S a b c
def upA (am : ts_Am) (κ i : Nat) (q : Nat) : ts_Am := fun a b => if a = κ ∧ b = i then q else am a b
def upN (n : Nat → Nat) (κ v : Nat) : Nat → Nat := fun a => if a = κ then v else n a
theorem up3_s (S : ts_St) (κ i k : Nat) (v : Int) : up3 S κ i k v κ i k = v := by simp [up3]
theorem up3_n {S : ts_St} {κ i k a b c : Nat} {v : Int} (h : ¬ (a = κ ∧ b = i ∧ c = k)) : up3 S κ i k v a b c = S a b c := by simp only [up3, if_neg h]
theorem up3_r {S : ts_St} {κ i k a b : Nat} {v : Int} (h : ¬ (a = κ ∧ b = i)) : up3 S κ i k v a b = S a b := by
  funext c
  exact up3_n (fun q => h ⟨q.1, q.2.1⟩)
theorem up2_s (S : ts_St) (κ i : Nat) (f : Nat → Int) : up2 S κ i f κ i = f := by
  funext c
  simp [up2]
theorem up2_r {S : ts_St} {κ i a b : Nat} {f : Nat → Int} (h : ¬ (a = κ ∧ b = i)) : up2 S κ i f a b = S a b := by
  funext c
  simp only [up2, if_neg h]
theorem upA_s (am : ts_Am) (κ i q : Nat) : upA am κ i q κ i = q := by simp [upA]
theorem upA_r {am : ts_Am} {κ i q a b : Nat} (h : ¬ (a = κ ∧ b = i)) : upA am κ i q a b = am a b := by simp only [upA, if_neg h]
theorem upN_s (n : Nat → Nat) (κ v : Nat) : upN n κ v κ = v := by simp [upN]
theorem upN_r {n : Nat → Nat} {κ v a : Nat} (h : a ≠ κ) : upN n κ v a = n a := by simp only [upN, if_neg h]
theorem ts_L_get (am : ts_Am) (f : Nat → Int) : ∀ (ts : List Nat) (k0 k : Nat), (ts_L am f k0 ts)[k]? = (ts[k]?).map (fun t => ts_V am t (f (k0 + k)))
  | [], k0, k => by simp [ts_L]
  | t :: ts, k0, 0 => by simp [ts_L]
  | t :: ts, k0, k + 1 => by
    rw [ts_L, List.getElem?_cons_succ, List.getElem?_cons_succ, ts_L_get am f ts (k0 + 1) k]
    rw [show k0 + 1 + k = k0 + (k + 1) by omega]
theorem ts_L_len (am : ts_Am) (f : Nat → Int) : ∀ (ts : List Nat) (k0 : Nat), (ts_L am f k0 ts).length = ts.length
  | [], k0 => rfl
  | t :: ts, k0 => by simp [ts_L, ts_L_len am f ts (k0 + 1)]
theorem ts_L_congr {am am' : ts_Am} {f f' : Nat → Int} {ts : List Nat} (h : ∀ k t : Nat, ts[k]? = some t → ts_V am t (f k) = ts_V am' t (f' k)) : ts_L am f 0 ts = ts_L am' f' 0 ts := by
  apply List.ext_getElem?
  intro k
  rw [ts_L_get, ts_L_get]
  cases hk : ts[k]? with
  | none => rfl
  | some t =>
    simp only [Option.map_some, Nat.zero_add]
    rw [h k t hk]
theorem ts_L_set {am : ts_Am} {f : Nat → Int} {ts : List Nat} {k t : Nat} (ht : ts[k]? = some t) (v : Int) : (ts_L am f 0 ts).set k (ts_V am t v) = ts_L am (fun j => if j = k then v else f j) 0 ts := by
  have hl : k < (ts_L am f 0 ts).length := by
    rw [ts_L_len]
    exact (List.getElem?_eq_some_iff.mp ht).1
  apply List.ext_getElem?
  intro j
  by_cases hj : j = k
  · subst hj
    rw [List.getElem?_set_self hl, ts_L_get, ht]
    simp
  · rw [List.getElem?_set_ne (Ne.symm hj), ts_L_get, ts_L_get]
    simp [hj]
theorem ts_E_obj {tab : ts_Tab} {cA : Nat → ClassId} {am : ts_Am} {S : ts_St} {κ i ci : Nat} {ts : List Nat} (h : tab κ = .inl (ci, ts)) : ts_E tab cA am S κ i = .inr (ci, ts_L am (S κ i) 0 ts) := by simp only [ts_E, h]
theorem ts_E_arr {tab : ts_Tab} {cA : Nat → ClassId} {am : ts_Am} {S : ts_St} {κ i len t : Nat} {ty : FieldType} (h : tab κ = .inr (len, t, ty)) : ts_E tab cA am S κ i = .inl (cA κ, len, ts_F am t (S κ i)) := by simp only [ts_E, h]
theorem ts_E_row {tab : ts_Tab} {cA : Nat → ClassId} {am : ts_Am} {S S' : ts_St} {κ i : Nat} (h : S' κ i = S κ i) : ts_E tab cA am S' κ i = ts_E tab cA am S κ i := by simp only [ts_E, h]
theorem ts_bd_0 : ts_bd 0 := by constructor <;> decide
theorem ts_ok.put {tab : ts_Tab} {n : Nat → Nat} {S : ts_St} {κ i k : Nat} {v : Int} (h : ts_ok tab n S) (hv : ts_ty tab κ k ≠ some 1 → ts_bd v) (hr : ∀ t, ts_ty tab κ k = some (t + 2) → -1 ≤ v ∧ v < (n t : Int)) : ts_ok tab n (up3 S κ i k v) := by
  refine ⟨fun a b c hne => ?_, fun a b c t hb ht => ?_⟩
  · unfold up3
    split
    · rename_i q
      obtain ⟨rfl, rfl, rfl⟩ := q
      exact hv hne
    · exact h.1 a b c hne
  · unfold up3
    split
    · rename_i q
      obtain ⟨rfl, rfl, rfl⟩ := q
      exact hr t ht
    · exact h.2 a b c t hb ht
theorem ts_P.put {tab : ts_Tab} {D : va_G} {cA : Nat → ClassId} {n : Nat → Nat} {am : ts_Am} {S : ts_St} {H H1 : Heap} {κ i k : Nat} {v : Int} (h : ts_P tab D cA (n, am, S) H) (hi : i < n κ) (he : va_at D vwCl (am κ i, ts_E tab cA am (up3 S κ i k v) κ i) H1) (oq : ∀ q : Nat, q ≠ am κ i → H1[q]? = H[q]?) (hv : ts_ty tab κ k ≠ some 1 → ts_bd v) (hr : ∀ t, ts_ty tab κ k = some (t + 2) → -1 ≤ v ∧ v < (n t : Int)) : ts_P tab D cA (n, am, up3 S κ i k v) H1 := by
  refine ⟨fun a b hb => ?_, h.2.1, h.2.2.put hv hr⟩
  by_cases q : a = κ ∧ b = i
  · obtain ⟨rfl, rfl⟩ := q
    exact he
  · show va_at D vwCl (am a b, ts_E tab cA am (up3 S κ i k v) a b) H1
    rw [ts_E_row (up3_r q)]
    exact (h.1 a b hb).kept (oq _ (fun z => q (h.2.1 a b κ i hb hi z)))
theorem ts_P.lt {tab : ts_Tab} {D : va_G} {cA : Nat → ClassId} {n : Nat → Nat} {am : ts_Am} {S : ts_St} {H : Heap} (h : ts_P tab D cA (n, am, S) H) {κ i : Nat} (hi : i < n κ) : am κ i < H.size := (h.1 κ i hi).lt
theorem ts_I.put {tab : ts_Tab} {D : va_G} {cA : Nat → ClassId} {A : Nat → Prop} {H0 : Heap} {n : Nat → Nat} {am : ts_Am} {S : ts_St} {H H1 : Heap} {locs : List Loc} {κ i k w : Nat} {v : Int} (h : ts_I tab D cA A H0 (n, am, S) H locs) (hi : i < n κ) (he : va_at D vwCl (am κ i, ts_E tab cA am (up3 S κ i k v) κ i) H1) (z : H1.size = H.size) (oq : ∀ q : Nat, q ≠ am κ i → H1[q]? = H[q]?) (hv : ts_ty tab κ k ≠ some 1 → ts_bd v) (hr : ∀ t, ts_ty tab κ k = some (t + 2) → -1 ≤ v ∧ v < (n t : Int)) : ts_I tab D cA A H0 (n, am, up3 S κ i k v) H1 (locs ++ [⟨am κ i, w⟩]) := by
  refine ⟨h.1.put hi he oq hv hr, ?_, h.2.2.put z oq (h.2.1 _ (Or.inl ⟨κ, i, hi, rfl⟩))⟩
  rw [z]
  exact h.2.1
theorem ts_rf_lt {tab : ts_Tab} {n : Nat → Nat} {S : ts_St} (h : ts_ok tab n S) {κ i k t : Nat} (hi : i < n κ) (ht : ts_ty tab κ k = some (t + 2)) : S κ i k < (n t : Int) := (h.2 κ i k t hi ht).2
theorem ts_rf_ge {tab : ts_Tab} {n : Nat → Nat} {S : ts_St} (h : ts_ok tab n S) {κ i k t : Nat} (hi : i < n κ) (ht : ts_ty tab κ k = some (t + 2)) : -1 ≤ S κ i k := (h.2 κ i k t hi ht).1
theorem ts_V_ref (am : ts_Am) (k j : Nat) : ts_V am (k + 2) (j : Int) = .ref (am k j) := by
  show va_rf (ts_R am k (j : Int)) = _
  unfold ts_R
  rw [if_neg (by omega)]
  rfl
theorem ts_V_null (am : ts_Am) (k : Nat) {z : Int} (h : z < 0) : ts_V am (k + 2) z = .null := by
  show va_rf (ts_R am k z) = _
  unfold ts_R
  rw [if_pos h]
  rfl
theorem ts_ty_obj {tab : ts_Tab} {κ ci k : Nat} {ts : List Nat} (h : tab κ = .inl (ci, ts)) : ts_ty tab κ k = ts[k]? := by simp only [ts_ty, h]
theorem ts_ty_arr {tab : ts_Tab} {κ len t k : Nat} {ty : FieldType} (h : tab κ = .inr (len, t, ty)) : ts_ty tab κ k = some t := by simp only [ts_ty, h]
section TSR
variable {p : Program} {l : Launch} {e : Env} {R : Room} {s : State} {m : MethodId} {args : Array Value} {below : List Frame} {meth : Method} {c : Code} {H : Heap} {locs : List Loc} {cells slots : Nat} {Q : State → Prop} {cc : ByteArray} {pc : Nat} {ls : Array Slot} {rest : List Value}
variable {tab : ts_Tab} {D : va_G} {cA : Nat → ClassId} {A : Nat → Prop} {H0 : Heap} {n : Nat → Nat} {am : ts_Am} {S : ts_St} {κ i k : Nat}
theorem zg (hexec : p.tables.exec = Jvm.exec) (hb : c.code = cc) {own ref C : String} {T : u_T} {N ci index t : Nat} {ts : List Nat} (hL : ∀ w ∈ u_ws C T N, w.before args s = true) (hown : s.vm.findClass own = some m.cls) (hK : ts_K tab D cA s) (hI : ts_I tab D cA A H0 (n, am, S) H locs) (hi : i < n κ) (htab : tab κ = .inl (ci, ts)) (hc : vwCl[ci]? = some (C, T, N)) (hk : k < N) (ht : ts[k]? = some t) (hlink : (Cond.fieldLink own index ref (T k).2.1 (T k).2.2.1).before args s = true) (hsame : ∀ x, s.fieldFound? (T k).1 (T k).2.1 (T k).2.2.1 = some x → s.fieldFound? ref (T k).2.1 (T k).2.2.1 = some x) (hdg : decode cc pc = .ok (.getfield index, 3))
    (kk : W p l e R s m args below meth c H locs cells slots Q (F0 m (pc + 3) ls (ts_V am t (S κ i k) :: rest))) : W p l e R s m args below meth c H locs cells slots Q (F0 m pc ls (.ref (am κ i) :: rest)) := by
  have h1 := hI.1.1 κ i hi
  dsimp only at h1
  rw [ts_E_obj htab] at h1
  have hP : va_P D vwCl [(am κ i, .inr (ci, ts_L am (S κ i) 0 ts))] H := fun j q hj => by
    have hz : j < 1 := (List.getElem?_eq_some_iff.mp hj).1
    rw [show j = 0 by omega] at hj
    cases hj
    exact h1
  refine va_get (D := D) hexec hb (Ts := u_ws C T N) hL (fun _ h => h) hown hK.1 hP 0 rfl hc k hk hlink hsame (v := ts_V am t (S κ i k)) ?_ hdg kk
  rw [ts_L_get, ht]
  simp
theorem zg_i (hexec : p.tables.exec = Jvm.exec) (hb : c.code = cc) {own ref C : String} {T : u_T} {N ci index : Nat} {ts : List Nat} {z : Int} (hL : ∀ w ∈ u_ws C T N, w.before args s = true) (hown : s.vm.findClass own = some m.cls) (hK : ts_K tab D cA s) (hI : ts_I tab D cA A H0 (n, am, S) H locs) (hi : i < n κ) (htab : tab κ = .inl (ci, ts)) (hc : vwCl[ci]? = some (C, T, N)) (hk : k < N) (ht : ts[k]? = some 0) (hlink : (Cond.fieldLink own index ref (T k).2.1 (T k).2.2.1).before args s = true) (hsame : ∀ x, s.fieldFound? (T k).1 (T k).2.1 (T k).2.2.1 = some x → s.fieldFound? ref (T k).2.1 (T k).2.2.1 = some x) (hdg : decode cc pc = .ok (.getfield index, 3)) (hz : S κ i k = z)
    (kk : ts_bd z → W p l e R s m args below meth c H locs cells slots Q (F0 m (pc + 3) ls (.int (iZ z) :: rest))) : W p l e R s m args below meth c H locs cells slots Q (F0 m pc ls (.ref (am κ i) :: rest)) := by
  subst hz
  exact zg hexec hb hL hown hK hI hi htab hc hk ht hlink hsame hdg (kk (hI.1.2.2.1 κ i k (by rw [ts_ty_obj htab, ht]; decide)))
theorem zg_l (hexec : p.tables.exec = Jvm.exec) (hb : c.code = cc) {own ref C : String} {T : u_T} {N ci index : Nat} {ts : List Nat} {z : Int} (hL : ∀ w ∈ u_ws C T N, w.before args s = true) (hown : s.vm.findClass own = some m.cls) (hK : ts_K tab D cA s) (hI : ts_I tab D cA A H0 (n, am, S) H locs) (hi : i < n κ) (htab : tab κ = .inl (ci, ts)) (hc : vwCl[ci]? = some (C, T, N)) (hk : k < N) (ht : ts[k]? = some 1) (hlink : (Cond.fieldLink own index ref (T k).2.1 (T k).2.2.1).before args s = true) (hsame : ∀ x, s.fieldFound? (T k).1 (T k).2.1 (T k).2.2.1 = some x → s.fieldFound? ref (T k).2.1 (T k).2.2.1 = some x) (hdg : decode cc pc = .ok (.getfield index, 3)) (hz : S κ i k = z)
    (kk : W p l e R s m args below meth c H locs cells slots Q (F0 m (pc + 3) ls (.long (lZ z) :: rest))) : W p l e R s m args below meth c H locs cells slots Q (F0 m pc ls (.ref (am κ i) :: rest)) := by
  subst hz
  exact zg hexec hb hL hown hK hI hi htab hc hk ht hlink hsame hdg kk
/-- a reference that is known -/
theorem zg_r (hexec : p.tables.exec = Jvm.exec) (hb : c.code = cc) {own ref C : String} {T : u_T} {N ci index t j : Nat} {ts : List Nat} (hL : ∀ w ∈ u_ws C T N, w.before args s = true) (hown : s.vm.findClass own = some m.cls) (hK : ts_K tab D cA s) (hI : ts_I tab D cA A H0 (n, am, S) H locs) (hi : i < n κ) (htab : tab κ = .inl (ci, ts)) (hc : vwCl[ci]? = some (C, T, N)) (hk : k < N) (ht : ts[k]? = some (t + 2)) (hlink : (Cond.fieldLink own index ref (T k).2.1 (T k).2.2.1).before args s = true) (hsame : ∀ x, s.fieldFound? (T k).1 (T k).2.1 (T k).2.2.1 = some x → s.fieldFound? ref (T k).2.1 (T k).2.2.1 = some x) (hdg : decode cc pc = .ok (.getfield index, 3)) (hz : S κ i k = (j : Int))
    (kk : j < n t → W p l e R s m args below meth c H locs cells slots Q (F0 m (pc + 3) ls (.ref (am t j) :: rest))) : W p l e R s m args below meth c H locs cells slots Q (F0 m pc ls (.ref (am κ i) :: rest)) := by
  refine zg hexec hb hL hown hK hI hi htab hc hk ht hlink hsame hdg ?_
  rw [hz, ts_V_ref]
  have h2 := ts_rf_lt hI.1.2.2 hi ((ts_ty_obj htab).trans ht)
  exact kk (by dsimp only at h2; rw [hz] at h2; omega)
/-- a reference that is null or not -/
theorem zg_q (hexec : p.tables.exec = Jvm.exec) (hb : c.code = cc) {own ref C : String} {T : u_T} {N ci index t : Nat} {ts : List Nat} (hL : ∀ w ∈ u_ws C T N, w.before args s = true) (hown : s.vm.findClass own = some m.cls) (hK : ts_K tab D cA s) (hI : ts_I tab D cA A H0 (n, am, S) H locs) (hi : i < n κ) (htab : tab κ = .inl (ci, ts)) (hc : vwCl[ci]? = some (C, T, N)) (hk : k < N) (ht : ts[k]? = some (t + 2)) (hlink : (Cond.fieldLink own index ref (T k).2.1 (T k).2.2.1).before args s = true) (hsame : ∀ x, s.fieldFound? (T k).1 (T k).2.1 (T k).2.2.1 = some x → s.fieldFound? ref (T k).2.1 (T k).2.2.1 = some x) (hdg : decode cc pc = .ok (.getfield index, 3))
    (kn : S κ i k = -1 → W p l e R s m args below meth c H locs cells slots Q (F0 m (pc + 3) ls (.null :: rest))) (kk : ∀ j : Nat, S κ i k = (j : Int) → j < n t → W p l e R s m args below meth c H locs cells slots Q (F0 m (pc + 3) ls (.ref (am t j) :: rest))) : W p l e R s m args below meth c H locs cells slots Q (F0 m pc ls (.ref (am κ i) :: rest)) := by
  by_cases h : S κ i k < 0
  · refine zg hexec hb hL hown hK hI hi htab hc hk ht hlink hsame hdg ?_
    rw [ts_V_null am t h]
    have h2 := ts_rf_ge hI.1.2.2 hi ((ts_ty_obj htab).trans ht)
    dsimp only at h2
    exact kn (by omega)
  · obtain ⟨j, hj⟩ := Int.eq_ofNat_of_zero_le (Int.not_lt.mp h)
    exact zg_r hexec hb hL hown hK hI hi htab hc hk ht hlink hsame hdg hj (kk j hj)
theorem zp (hexec : p.tables.exec = Jvm.exec) (hb : c.code = cc) {own ref C : String} {T : u_T} {N ci index t : Nat} {ts : List Nat} (hL : ∀ w ∈ u_ws C T N, w.before args s = true) (ty0 : Nat → FieldType) (hty : ∀ k, k < N → parseFieldDescriptor (T k).2.2.1 = some (ty0 k)) (hnm : ∀ a, a < N → ∀ b, b < N → a ≠ b → (T a).2.1 ≠ (T b).2.1) (hown : s.vm.findClass own = some m.cls) (hK : ts_K tab D cA s) (hI : ts_I tab D cA A H0 (n, am, S) H locs) (hi : i < n κ) (htab : tab κ = .inl (ci, ts)) (hc : vwCl[ci]? = some (C, T, N)) (hk : k < N) (ht : ts[k]? = some t) (hlink : (Cond.fieldLink own index ref (T k).2.1 (T k).2.2.1).before args s = true) (hsame : ∀ x, s.fieldFound? (T k).1 (T k).2.1 (T k).2.2.1 = some x → s.fieldFound? ref (T k).2.1 (T k).2.2.1 = some x) (hfin : (T k).2.2.2 = false) {z : Int} (hn : narrow (ty0 k) (ts_V am t z) = ts_V am t z) (hfit : fits (ty0 k) (ts_V am t z) = true) (hz : t ≠ 1 → ts_bd z) (hr : ∀ t', t = t' + 2 → -1 ≤ z ∧ z < (n t' : Int)) (hdg : decode cc pc = .ok (.putfield index, 3))
    (kk : ∀ (H1 : Heap) (locs1 : List Loc), ts_I tab D cA A H0 (n, am, up3 S κ i k z) H1 locs1 → W p l e R s m args below meth c H1 locs1 cells slots Q (F0 m (pc + 3) ls rest)) : W p l e R s m args below meth c H locs cells slots Q (F0 m pc ls (ts_V am t z :: .ref (am κ i) :: rest)) := by
  have hap := va_apart (own := own) hL (fun _ h => h) ty0 hty hnm hK.1 hc
  have h1 := hI.1.1 κ i hi
  dsimp only at h1
  rw [ts_E_obj htab] at h1
  obtain ⟨r, h1, cell, q1, q2, q3, q4⟩ := h1
  have hr0 : r = (C, T, N) := Option.some.inj (h1.symm.trans hc)
  subst hr0
  obtain ⟨hS, hfc, kC, hkC, hkind⟩ := hK.1.1 ci _ hc
  obtain ⟨cf, kf, fi, f, hfi, hsl⟩ := hS k hk
  have hlay := hL _ (u_in_lay hk)
  unfold u_lay at hlay
  rw [if_neg (by rw [hfin]; decide)] at hlay
  have hst := (u_facts hfc hkC (u_lays hL (fun _ h => h) hk) hfi).1
  have h6 := u_store hfc hkC hkind hlay hfi (hty k hk) hn hfit
  refine W.putK hexec hb (f := f) ⟨hown, hlink, ⟨_, _, _, hsame _ hfi⟩, hst⟩ (by rw [q2]; exact h6) q1 q3 (by rw [hsl]; exact k2_hasslot (q4 k hk)) rfl rfl hdg fun H' e1 e2 e3 => ?_
  rw [hsl] at e1 ⊢
  refine kk H' _ (hI.put hi ?_ e2 e3 (fun q => hz (fun z1 => q (by rw [ts_ty_obj htab, ht, z1]))) (fun t' q => hr t' ?_))
  · show va_at D vwCl (am κ i, ts_E tab cA am (up3 S κ i k z) κ i) H'
    rw [ts_E_obj htab]
    refine ⟨_, hc, t_OB.to (V := updV (vp_V (ts_L am (S κ i) 0 ts)) k (ts_V am t z)) ⟨_, e1, q2, q3, t_set q4 hap hk _⟩ (fun j _ => ?_)⟩
    have hl : k < (ts_L am (S κ i) 0 ts).length := by
      rw [ts_L_len]
      exact (List.getElem?_eq_some_iff.mp ht).1
    rw [vp_updV_set hl, ts_L_set ht]
    congr 2
    funext b
    simp [up3]
  · rw [ts_ty_obj htab, ht] at q
    exact Option.some.inj q
theorem zpF (hexec : p.tables.exec = Jvm.exec) (hb : c.code = cc) {own ref C : String} {T : u_T} {N ci index t : Nat} {ts : List Nat} (hL : ∀ w ∈ u_ws C T N, w.before args s = true) (ty0 : Nat → FieldType) (hty : ∀ k, k < N → parseFieldDescriptor (T k).2.2.1 = some (ty0 k)) (hnm : ∀ a, a < N → ∀ b, b < N → a ≠ b → (T a).2.1 ≠ (T b).2.1) (hown : s.vm.findClass own = some m.cls) (hK : ts_K tab D cA s) (hI : ts_I tab D cA A H0 (n, am, S) H locs) (hi : i < n κ) (htab : tab κ = .inl (ci, ts)) (hc : vwCl[ci]? = some (C, T, N)) (hk : k < N) (ht : ts[k]? = some t) (hlink : (Cond.fieldLink own index ref (T k).2.1 (T k).2.2.1).before args s = true) (hsame : ∀ x, s.fieldFound? (T k).1 (T k).2.1 (T k).2.2.1 = some x → s.fieldFound? ref (T k).2.1 (T k).2.2.1 = some x) (hfin : (T k).2.2.2 = true) (hin2 : meth.name = "<init>") (hdecl : (T k).1 = own) {z : Int} (hn : narrow (ty0 k) (ts_V am t z) = ts_V am t z) (hfit : fits (ty0 k) (ts_V am t z) = true) (hz : t ≠ 1 → ts_bd z) (hr : ∀ t', t = t' + 2 → -1 ≤ z ∧ z < (n t' : Int)) (hdg : decode cc pc = .ok (.putfield index, 3))
    (kk : ∀ (H1 : Heap) (locs1 : List Loc), ts_I tab D cA A H0 (n, am, up3 S κ i k z) H1 locs1 → W p l e R s m args below meth c H1 locs1 cells slots Q (F0 m (pc + 3) ls rest)) : W p l e R s m args below meth c H locs cells slots Q (F0 m pc ls (ts_V am t z :: .ref (am κ i) :: rest)) := by
  have hap := va_apart (own := own) hL (fun _ h => h) ty0 hty hnm hK.1 hc
  have h1 := hI.1.1 κ i hi
  dsimp only at h1
  rw [ts_E_obj htab] at h1
  obtain ⟨r, h1, cell, q1, q2, q3, q4⟩ := h1
  have hr0 : r = (C, T, N) := Option.some.inj (h1.symm.trans hc)
  subst hr0
  obtain ⟨hS, hfc, kC, hkC, hkind⟩ := hK.1.1 ci _ hc
  obtain ⟨cf, kf, fi, f, hfi, hsl⟩ := hS k hk
  have hlay := hL _ (u_in_lay hk)
  unfold u_lay at hlay
  rw [if_pos hfin] at hlay
  have hst := (u_facts hfc hkC (u_lays hL (fun _ h => h) hk) hfi).1
  have hcf : m.cls = cf := by
    obtain ⟨_, _, c', _, _, _, -, -, hf', -, -, -, hown2, -⟩ := Cond.laysFinal_spec hlay
    have e1 : c' = cf := by have := hfi.symm.trans hf'; simp at this; exact this.1.symm
    rw [hdecl] at hown2
    rw [← e1]; exact Option.some.inj (hown.symm.trans hown2)
  have h6 := u_fits hfc hkC hkind (Or.inr hlay) hfi (hty k hk) hn hfit
  refine W.putFinK hexec hb hown hlink (hsame _ hfi) hst hcf hin2 (by rw [q2]; exact h6) q1 q3 (by rw [hsl]; exact k2_hasslot (q4 k hk)) rfl rfl hdg fun H' e1 e2 e3 => ?_
  rw [hsl] at e1 ⊢
  refine kk H' _ (hI.put hi ?_ e2 e3 (fun q => hz (fun z1 => q (by rw [ts_ty_obj htab, ht, z1]))) (fun t' q => hr t' ?_))
  · show va_at D vwCl (am κ i, ts_E tab cA am (up3 S κ i k z) κ i) H'
    rw [ts_E_obj htab]
    refine ⟨_, hc, t_OB.to (V := updV (vp_V (ts_L am (S κ i) 0 ts)) k (ts_V am t z)) ⟨_, e1, q2, q3, t_set q4 hap hk _⟩ (fun j _ => ?_)⟩
    have hl : k < (ts_L am (S κ i) 0 ts).length := by
      rw [ts_L_len]
      exact (List.getElem?_eq_some_iff.mp ht).1
    rw [vp_updV_set hl, ts_L_set ht]
    congr 2
    funext b
    simp [up3]
  · rw [ts_ty_obj htab, ht] at q
    exact Option.some.inj q
end TSR
end
section
section
variable {p : Program} {l : Launch} {e : Env} {R : Room} {s : State} {m : MethodId} {args : Array Value} {below : List Frame} {meth : Method} {c : Code} {H : Heap} {locs : List Loc} {cells slots : Nat} {Q : State → Prop}
variable {mc ms : Nat} {free : Addr → Prop} {A0 A1 : Nat → Prop} {H0 : Heap} {a : Array Value} {pc : Nat} {ls : Array Slot} {st0 rest : List Value}
theorem vx_callq {S SX : Type} {post : Option Nat → S → Prop} {px : SX → Prop} {B : S → State → Prop} {BX : String → SX → State → Prop} {AX : Nat → Prop} (hr : vx_Run p l e R s m args below meth c H locs cells slots mc ms (F0 m pc ls st0) rest (va_Qq post B A1 a) (vx_X px BX AX) free) (hS : va_S A0 H0 H locs) (hA : ∀ q, q < H.size → A1 q → A0 q) (hf : ∀ q, free q → A0 q) (hAX : ∀ q, q < H.size → AX q → A0 q)
    (kx : ∀ (E : String) (ce : Cell) (q9 : Addr) (u : SX) (t : State) (H1 : Heap) (locs1 : List Loc), t.heap = H1 → s.vm.Alike t.vm → px u → BX E u t → H.size ≤ H1.size → (∀ q : Nat, q < H.size → ¬ AX q → H1[q]? = H[q]?) → va_S A0 H0 H1 locs1 → H1[q9]? = some ce → ce.vm = .none → s.vm.findClass E = some ce.cls → vx_W p l e R s m args below meth c H1 locs1 (cells + mc) (slots + ms) Q (F0 m pc ls rest) q9)
    (kk : ∀ (r : Option Nat) (u : S) (t : State) (H1 : Heap) (locs1 : List Loc), t.heap = H1 → s.vm.Alike t.vm → post r u → B u t → H.size ≤ H1.size → (∀ q : Nat, q < H.size → ¬ A1 q → H1[q]? = H[q]?) → va_S A0 H0 H1 locs1 → W p l e R s m args below meth c H1 locs1 (cells + mc) (slots + ms) Q (F0 m (pc + 3) ls (va_rf r :: rest))) : W p l e R s m args below meth c H locs cells slots Q (F0 m pc ls st0) := by
  intro T hT X
  rcases hr T hT X with ⟨v, st₀, t, T', L, h0, X', hL, e1, e2, ⟨⟨r, u, hv, hp, hb⟩, hF⟩, st⟩ | ⟨q, st₀, t, T', L, E, ce, h0, X', hL, e1, e2, ⟨u, hp, hb, hF⟩, hce, hcv, hcl, st⟩
  · cases hv
    obtain ⟨k1, k2, k3⟩ := vx_keep h0 e1 hS hA hf hL hF
    obtain ⟨t2, a1, b1⟩ := kk r u t T'.heap (locs ++ L) e1.symm (by rw [← e2]; exact X'.warmed.alike) hp hb k1 k2 k3 T' rfl X'
    exact ⟨t2, st t2 a1, b1⟩
  · obtain ⟨k1, k2, k3⟩ := vx_keep h0 e1 hS hAX hf hL hF
    obtain ⟨t2, a1, b1⟩ := kx E ce q u t T'.heap (locs ++ L) e1.symm (by rw [← e2]; exact X'.warmed.alike) hp hb k1 k2 k3 (by rw [e1]; exact hce) hcv hcl T' rfl X'
    exact ⟨t2, st.trans a1, b1⟩
end
/-! Contracts over a typed store, their ends, their calls. -/
def zP (tab : ts_Tab) (D : va_G) (cA : Nat → ClassId) (u : ts_W) (sz : Nat) : State → Prop := fun U => U.heap.size = sz ∧ ts_P tab D cA u U.heap ∧ ts_K tab D cA U
def gX_strs : List (Nat × String) := [(50, "the capacity is out of range"), (60, "there are 4 lanes"), (67, "there is no such kind"), (72, "there are 4 doors"), (77, "the tolerance is out of range"), (79, "a number is out of range"), (84, "the hour or the work is out of range"), (89, "40 appointments have been booked"), (243, "there is no such appointment"), (250, "there is no such lane"), (106, "the appointment is not booked"), (112, "there are 6 trailers in lanes"), (122, "the trailer cannot come into the lane"), (245, "the trailer has not arrived"), (144, "no appointment is booked"), (256, "the trailer is not in a lane"), (258, "the trailer is not reached"), (155, "the trailer is in this lane"), (170, "there is no such door"), (174, "the trailer cannot be docked at the door"), (190, "the trailer is not at a door"), (192, "the work is not done"), (211, "there is no such trailer"), (217, "the trailer cannot be reached with at most 4 moves"), (223, "the number of hours is out of range"), (234, "there are no doors"), (241, "no trailer has arrived")]
/-- what throwing needs: the two statics of Throwable, and the texts -/
def gX_cls : List String := ["java/lang/IllegalArgumentException", "java/lang/IllegalStateException", "java/lang/UnsupportedOperationException", "java/util/NoSuchElementException", "java/lang/IndexOutOfBoundsException", "java/lang/ArithmeticException"]
def gX_dec : List String := ["java/lang/RuntimeException", "java/lang/Exception", "java/lang/Throwable"]
def gX (A : Nat → Prop) (U : State) (H : Heap) : Prop := vx_Zq Bundle.tN "UNASSIGNED_STACK" Bundle.steD A U H ∧ vx_Zq Bundle.tN "SUPPRESSED_SENTINEL" Bundle.listD A U H ∧ (∀ q ∈ gX_strs, ∃ sa : Nat, vk_R RX4 q.1 q.2 sa U) ∧ (∀ X ∈ gX_cls, va_Nw (.castable X X) U) ∧ ∀ X ∈ gX_dec, va_Nw (.declares (Bundle.initS X)) U
def zPX (tab : ts_Tab) (D : va_G) (cA : Nat → ClassId) (u : ts_W) (sz : Nat) : State → Prop := fun U => zP tab D cA u sz U ∧ gX (ts_A u sz) U U.heap
def zBu (tab : ts_Tab) (D : va_G) (cA : Nat → ClassId) (u : ts_W) (sz : Nat) : ts_W → State → Prop := fun u' t => ts_P tab D cA u' t.heap ∧ ∀ q, ts_A u' t.heap.size q → ts_A u sz q
abbrev zQi (tab : ts_Tab) (D : va_G) (cA : Nat → ClassId) (u : ts_W) (sz : Nat) (post : Int → ts_W → Prop) : Array Value → State → Outcome → State → Prop := va_Qi (fun (r : Int32) (u' : ts_W) => ∃ z : Int, r = iZ z ∧ iR z ∧ post z u') (zBu tab D cA u sz) (ts_A u sz)
abbrev zQl (tab : ts_Tab) (D : va_G) (cA : Nat → ClassId) (u : ts_W) (sz : Nat) (post : Int → ts_W → Prop) : Array Value → State → Outcome → State → Prop := va_Ql (fun (r : Int64) (u' : ts_W) => ∃ z : Int, r = lZ z ∧ post z u') (zBu tab D cA u sz) (ts_A u sz)
abbrev zQf (tab : ts_Tab) (D : va_G) (cA : Nat → ClassId) (u : ts_W) (sz : Nat) (post : UInt32 → ts_W → Prop) : Array Value → State → Outcome → State → Prop := va_Qf post (zBu tab D cA u sz) (ts_A u sz)
abbrev zQd (tab : ts_Tab) (D : va_G) (cA : Nat → ClassId) (u : ts_W) (sz : Nat) (post : UInt64 → ts_W → Prop) : Array Value → State → Outcome → State → Prop := va_Qd post (zBu tab D cA u sz) (ts_A u sz)
abbrev zQv (tab : ts_Tab) (D : va_G) (cA : Nat → ClassId) (u : ts_W) (sz : Nat) (post : ts_W → Prop) : Array Value → State → Outcome → State → Prop := va_Qv post (zBu tab D cA u sz) (ts_A u sz)
abbrev zQq (tab : ts_Tab) (D : va_G) (cA : Nat → ClassId) (u : ts_W) (sz : Nat) (k : Nat) (post : Int → ts_W → Prop) : Array Value → State → Outcome → State → Prop := va_Qq (fun (r : Option Nat) (u' : ts_W) => ∃ z : Int, r = ts_R u'.2.1 k z ∧ -1 ≤ z ∧ z < (u'.1 k : Int) ∧ post z u') (zBu tab D cA u sz) (ts_A u sz)
abbrev zXX (tab : ts_Tab) (D : va_G) (cA : Nat → ClassId) (u : ts_W) (sz : Nat) (px : String → Prop) : String → State → State → Prop := vx_X (fun (_ : Unit) => True) (fun (E : String) (_ : Unit) (t : State) => px E ∧ zBu tab D cA u sz u t) (ts_A u sz)
theorem zP_blind {tab : ts_Tab} {D : va_G} {cA : Nat → ClassId} {u : ts_W} {sz : Nat} {av : List Value} : FrameBlind (va_Pc av (zP tab D cA u sz)) := by
  intro a U g mk h
  obtain ⟨h0, h1, h2, h3⟩ := h
  exact ⟨h0, h1, h2, va_K.moved (u := U) (U := U.calling g mk a) (Vm.Alike.refl U.vm) h3.1, fun κ q hq => ⟨arrOfT_moved (u := U) (E := U.calling g mk a) (Vm.Alike.refl U.vm) (h3.2 κ q hq).1, va_RA.moved (u := U) (U := U.calling g mk a) (Vm.Alike.refl U.vm) (h3.2 κ q hq).2⟩⟩
theorem ts_K.moved {tab : ts_Tab} {D : va_G} {cA : Nat → ClassId} {u U : State} (hvm : u.vm.Alike U.vm) (h : ts_K tab D cA u) : ts_K tab D cA U := ⟨va_K.moved hvm h.1, fun κ q hq => ⟨arrOfT_moved hvm (h.2 κ q hq).1, va_RA.moved hvm (h.2 κ q hq).2⟩⟩
theorem gX.narrow {A B : Nat → Prop} {U : State} {H : Heap} (h : gX A U H) (hAB : ∀ q, B q → A q) : gX B U H := ⟨h.1.narrow hAB, h.2.1.narrow hAB, h.2.2⟩
theorem gX.kept {A : Nat → Prop} {U : State} {H H1 : Heap} (h : gX A U H) (hq : ∀ a : Nat, a < H.size → ¬ A a → H1[a]? = H[a]?) : gX A U H1 := ⟨h.1.kept hq, h.2.1.kept hq, h.2.2⟩
theorem gX.warm {A : Nat → Prop} {s U : State} {H : Heap} (hW : s.WarmedH U.vm) (h : gX A s H) : gX A U H := ⟨h.1.moved hW.alike, h.2.1.moved hW.alike, fun q hq => by
  obtain ⟨sa, h1⟩ := h.2.2.1 q hq
  exact ⟨sa, vk_R.warm hW h1⟩, fun X hX => va_Nw.warmC hW (h.2.2.2.1 X hX), fun X hX => va_Nw.warmD hW (h.2.2.2.2 X hX)⟩
theorem zPX_blind {tab : ts_Tab} {D : va_G} {cA : Nat → ClassId} {u : ts_W} {sz : Nat} {av : List Value} : FrameBlind (va_Pc av (zPX tab D cA u sz)) := by
  intro a U g mk h
  obtain ⟨h0, h1, h2, h3, h4, h5, h6⟩ := h
  have hb := zP_blind (av := av) a U g mk ⟨h0, h1⟩
  refine ⟨h0, hb.2, ?_, ?_, ?_, fun X hX => va_Nw.same (u := U) (U := U.calling g mk a) rfl rfl (h5 X hX), fun X hX => va_Nw.same (u := U) (U := U.calling g mk a) rfl rfl (h6 X hX)⟩
  · exact vx_Zq.moved (u := U) (U := U.calling g mk a) (Vm.Alike.refl U.vm) h2
  · exact vx_Zq.moved (u := U) (U := U.calling g mk a) (Vm.Alike.refl U.vm) h3
  · intro q hq
    obtain ⟨sa, h5⟩ := h4 q hq
    exact ⟨sa, vk_R.same (u := U) (U := U.calling g mk a) rfl h5⟩
section ZC
variable {p : Program} {l : Launch} {e : Env} {R : Room} {s : State} {m : MethodId} {args : Array Value} {below : List Frame} {meth : Method} {c : Code} {H : Heap} {locs : List Loc} {cells slots : Nat} {Q : State → Prop} {cc : ByteArray} {pc : Nat} {ls : Array Slot} {rest st0 : List Value} {a : Array Value}
variable {tab : ts_Tab} {D : va_G} {cA : Nat → ClassId} {A : Nat → Prop} {H0 : Heap} {n : Nat → Nat} {am : ts_Am} {S0 : ts_St} {u u' : ts_W} {κ i : Nat}
variable {y : MethodName} {bytes : ByteArray} {maxL nL mc ms index : Nat} {ret : Option FieldType} {ws : List Cond} {rm : Room} {Qc : Array Value → State → Outcome → State → Prop} {XC : String → State → State → Prop} {free : Addr → Prop} {Ts : List Cond} {own : String} {As : List Value}
theorem ts_recv {C : String} {T : u_T} {N ci : Nat} {ts : List Nat} (hK : ts_K tab D cA s) (hI : ts_I tab D cA A H0 (n, am, S0) H locs) (hi : i < n κ) (htab : tab κ = .inl (ci, ts)) (hc : vwCl[ci]? = some (C, T, N)) : ∃ cell : Cell, H[am κ i]? = some cell ∧ cell.vm.isStatics = false ∧ s.vm.findClass C = some cell.cls := by
  have h1 := hI.1.1 κ i hi
  dsimp only at h1
  rw [ts_E_obj htab] at h1
  have hP : va_P D vwCl [(am κ i, .inr (ci, ts_L am (S0 κ i) 0 ts))] H := fun j q hj => by
    have hz : j < 1 := (List.getElem?_eq_some_iff.mp hj).1
    rw [show j = 0 by omega] at hj
    cases hj
    exact h1
  exact va_recv hK.1 hP (ci := ci) (q0 := 0) hc rfl
theorem zPre (hK : ts_K tab D cA s) (hI : ts_I tab D cA A H0 u H locs) {av : List Value} (U : State) (hU : U.heap = H) (hW : s.WarmedH U.vm) : va_Pc av (zP tab D cA u H.size) av.toArray U := ⟨rfl, by rw [hU], by rw [hU]; exact hI.1, hK.moved hW.alike⟩
theorem zPreX (hK : ts_K tab D cA s) (hI : ts_I tab D cA A s.heap u H locs) (hG : gX A s s.heap) {av : List Value} (U : State) (hU : U.heap = H) (hW : s.WarmedH U.vm) : va_Pc av (zPX tab D cA u H.size) av.toArray U := by
  refine ⟨rfl, (zPre (av := av) hK hI U hU hW).2, ?_⟩
  rw [hU]
  exact ((hG.kept (fun q h1 h2 => hI.2.2.2.1 q h1 h2)).warm hW).narrow (fun q h => hI.2.1 q h)
/-- calls that don't throw -/
theorem zrV {C : String} {T : u_T} {N ci k : Nat} {ts : List Nat} (S : CallFix p m c cc nL s args Ts own) (hM : Met l y ws rm (va_Pc (.ref (am κ i) :: As) (zP tab D cA (n, am, S0) H.size)) Qc mc ms free) (cw : CallW R s args own C index y bytes maxL ret ws rm mc ms k) (hK : ts_K tab D cA s) (hI : ts_I tab D cA A H0 (n, am, S0) H locs) (hi : i < n κ) (htab : tab κ = .inl (ci, ts)) (hc : vwCl[ci]? = some (C, T, N))
    (hn : As.length = k) (hsize : ls.size = nL) (hstack : st0 = As.reverse ++ .ref (am κ i) :: rest) (hW : (rest.map fun v => v.category).sum ≤ 8) (hdg : decode cc pc = .ok (.invokevirtual index, 3)) (hf : cells + mc ≤ R.cells ∧ slots + ms ≤ R.slots) :
    va_Run p l e R s m args below meth c H locs cells slots mc ms (F0 m pc ls st0) rest (Qc (Value.ref (am κ i) :: As).toArray) free :=
  va_runV S hM cw ⟨zP_blind, ts_recv hK hI hi htab hc, fun U hU hW => zPre hK hI U hU hW⟩ rfl hn hsize hstack (lv_room hW) hdg hf
theorem zrS {k : Nat} (S : CallFix p m c cc nL s args Ts own) (hM : Met l y ws rm (va_Pc As (zP tab D cA u H.size)) Qc mc ms free) (cw : CallB R s args own index y bytes maxL ret ws rm mc ms k ∧ (Cond.static y).before args s = true) (hK : ts_K tab D cA s) (hI : ts_I tab D cA A H0 u H locs)
    (hn : As.length = k) (hsize : ls.size = nL) (hstack : st0 = As.reverse ++ rest) (hW : (rest.map fun v => v.category).sum ≤ 8) (hdg : decode cc pc = .ok (.invokestatic index, 3)) (hf : cells + mc ≤ R.cells ∧ slots + ms ≤ R.slots) :
    va_Run p l e R s m args below meth c H locs cells slots mc ms (F0 m pc ls st0) rest (Qc As.toArray) free :=
  va_runS S hM cw ⟨zP_blind, fun U hU hW => zPre hK hI U hU hW⟩ rfl hn hsize hstack (lv_room hW) hdg hf
theorem zrI {b k : Nat} (S : CallFix p m c cc nL s args Ts own) (hM : Met l y ws rm (va_Pc (.ref b :: As) (zP tab D cA u H.size)) Qc mc ms free) (cw : CallB R s args own index y bytes maxL none ws rm mc ms k ∧ y.name = "<init>" ∧ (Cond.instanceMethod y).before args s = true) (hK : ts_K tab D cA s) (hI : ts_I tab D cA A H0 u H locs)
    (hn : As.length = k) (hsize : ls.size = nL) (hstack : st0 = As.reverse ++ .ref b :: rest) (hW : (rest.map fun v => v.category).sum ≤ 8) (hdg : decode cc pc = .ok (.invokespecial index, 3)) (hf : cells + mc ≤ R.cells ∧ slots + ms ≤ R.slots) :
    va_Run p l e R s m args below meth c H locs cells slots mc ms (F0 m pc ls st0) rest (Qc (Value.ref b :: As).toArray) free :=
  va_runI S hM cw ⟨zP_blind, fun U hU hW => zPre hK hI U hU hW⟩ rfl hn hsize hstack (lv_room hW) hdg hf
/-- calls that may throw -/
theorem zxV {C : String} {T : u_T} {N ci k : Nat} {ts : List Nat} (S : CallFix p m c cc nL s args Ts own) (hM : vx_Met l y ws rm (va_Pc (.ref (am κ i) :: As) (zPX tab D cA (n, am, S0) H.size)) Qc XC mc ms free) (cw : CallW R s args own C index y bytes maxL ret ws rm mc ms k) (hK : ts_K tab D cA s) (hI : ts_I tab D cA A s.heap (n, am, S0) H locs) (hG : gX A s s.heap) (hi : i < n κ) (htab : tab κ = .inl (ci, ts)) (hc : vwCl[ci]? = some (C, T, N))
    (hn : As.length = k) (hsize : ls.size = nL) (hstack : st0 = As.reverse ++ .ref (am κ i) :: rest) (hW : (rest.map fun v => v.category).sum ≤ 8) (hdg : decode cc pc = .ok (.invokevirtual index, 3)) (hf : cells + mc ≤ R.cells ∧ slots + ms ≤ R.slots) :
    vx_Run p l e R s m args below meth c H locs cells slots mc ms (F0 m pc ls st0) rest (Qc (Value.ref (am κ i) :: As).toArray) XC free :=
  vx_runV S hM cw ⟨zPX_blind, ts_recv hK hI hi htab hc, fun U hU hW => zPreX hK hI hG U hU hW⟩ rfl hn hsize hstack (lv_room hW) hdg hf
theorem zxS {k : Nat} (S : CallFix p m c cc nL s args Ts own) (hM : vx_Met l y ws rm (va_Pc As (zPX tab D cA u H.size)) Qc XC mc ms free) (cw : CallB R s args own index y bytes maxL ret ws rm mc ms k ∧ (Cond.static y).before args s = true) (hK : ts_K tab D cA s) (hI : ts_I tab D cA A s.heap u H locs) (hG : gX A s s.heap)
    (hn : As.length = k) (hsize : ls.size = nL) (hstack : st0 = As.reverse ++ rest) (hW : (rest.map fun v => v.category).sum ≤ 8) (hdg : decode cc pc = .ok (.invokestatic index, 3)) (hf : cells + mc ≤ R.cells ∧ slots + ms ≤ R.slots) :
    vx_Run p l e R s m args below meth c H locs cells slots mc ms (F0 m pc ls st0) rest (Qc As.toArray) XC free :=
  vx_runS S hM cw ⟨zPX_blind, fun U hU hW => zPreX hK hI hG U hU hW⟩ rfl hn hsize hstack (lv_room hW) hdg hf
/-- behind a call -/
theorem zc_i {post : Int → ts_W → Prop} (hr : va_Run p l e R s m args below meth c H locs cells slots mc ms (F0 m pc ls st0) rest (zQi tab D cA u H.size post a) (ts_A u H.size)) (hI : ts_I tab D cA A H0 u H locs)
    (kk : ∀ (z : Int) (u' : ts_W) (H1 : Heap) (locs1 : List Loc), iR z → post z u' → ts_I tab D cA A H0 u' H1 locs1 → (∀ q : Nat, q < H.size → ¬ ts_A u H.size q → H1[q]? = H[q]?) → W p l e R s m args below meth c H1 locs1 (cells + mc) (slots + ms) Q (F0 m (pc + 3) ls (.int (iZ z) :: rest))) : W p l e R s m args below meth c H locs cells slots Q (F0 m pc ls st0) :=
  va_calli hr hI.2.2 (fun q _ h => hI.2.1 q h) (fun q h => hI.2.1 q h) (fun r u1 t H1 locs1 ht hvm hp hB hz hk hS => by
    obtain ⟨z, rfl, hz2, hp⟩ := hp
    subst ht
    exact kk z u1 _ locs1 hz2 hp ⟨hB.1, fun q h => hI.2.1 q (hB.2 q h), hS⟩ hk)
theorem zc_l {post : Int → ts_W → Prop} (hr : va_Run p l e R s m args below meth c H locs cells slots mc ms (F0 m pc ls st0) rest (zQl tab D cA u H.size post a) (ts_A u H.size)) (hI : ts_I tab D cA A H0 u H locs)
    (kk : ∀ (z : Int) (u' : ts_W) (H1 : Heap) (locs1 : List Loc), post z u' → ts_I tab D cA A H0 u' H1 locs1 → (∀ q : Nat, q < H.size → ¬ ts_A u H.size q → H1[q]? = H[q]?) → W p l e R s m args below meth c H1 locs1 (cells + mc) (slots + ms) Q (F0 m (pc + 3) ls (.long (lZ z) :: rest))) : W p l e R s m args below meth c H locs cells slots Q (F0 m pc ls st0) :=
  va_calll hr hI.2.2 (fun q _ h => hI.2.1 q h) (fun q h => hI.2.1 q h) (fun r u1 t H1 locs1 ht hvm hp hB hz hk hS => by
    obtain ⟨z, rfl, hp⟩ := hp
    subst ht
    exact kk z u1 _ locs1 hp ⟨hB.1, fun q h => hI.2.1 q (hB.2 q h), hS⟩ hk)
theorem zc_f {post : UInt32 → ts_W → Prop} (hr : va_Run p l e R s m args below meth c H locs cells slots mc ms (F0 m pc ls st0) rest (zQf tab D cA u H.size post a) (ts_A u H.size)) (hI : ts_I tab D cA A H0 u H locs)
    (kk : ∀ (z : UInt32) (u' : ts_W) (H1 : Heap) (locs1 : List Loc), post z u' → ts_I tab D cA A H0 u' H1 locs1 → (∀ q : Nat, q < H.size → ¬ ts_A u H.size q → H1[q]? = H[q]?) → W p l e R s m args below meth c H1 locs1 (cells + mc) (slots + ms) Q (F0 m (pc + 3) ls (.float z :: rest))) : W p l e R s m args below meth c H locs cells slots Q (F0 m pc ls st0) :=
  va_callf hr hI.2.2 (fun q _ h => hI.2.1 q h) (fun q h => hI.2.1 q h) (fun r u1 t H1 locs1 ht hvm hp hB hz hk hS => by
    subst ht
    exact kk r u1 _ locs1 hp ⟨hB.1, fun q h => hI.2.1 q (hB.2 q h), hS⟩ hk)
theorem zc_d {post : UInt64 → ts_W → Prop} (hr : va_Run p l e R s m args below meth c H locs cells slots mc ms (F0 m pc ls st0) rest (zQd tab D cA u H.size post a) (ts_A u H.size)) (hI : ts_I tab D cA A H0 u H locs)
    (kk : ∀ (z : UInt64) (u' : ts_W) (H1 : Heap) (locs1 : List Loc), post z u' → ts_I tab D cA A H0 u' H1 locs1 → (∀ q : Nat, q < H.size → ¬ ts_A u H.size q → H1[q]? = H[q]?) → W p l e R s m args below meth c H1 locs1 (cells + mc) (slots + ms) Q (F0 m (pc + 3) ls (.double z :: rest))) : W p l e R s m args below meth c H locs cells slots Q (F0 m pc ls st0) :=
  va_calld hr hI.2.2 (fun q _ h => hI.2.1 q h) (fun q h => hI.2.1 q h) (fun r u1 t H1 locs1 ht hvm hp hB hz hk hS => by
    subst ht
    exact kk r u1 _ locs1 hp ⟨hB.1, fun q h => hI.2.1 q (hB.2 q h), hS⟩ hk)
theorem zc_v {post : ts_W → Prop} (hr : va_Run p l e R s m args below meth c H locs cells slots mc ms (F0 m pc ls st0) rest (zQv tab D cA u H.size post a) (ts_A u H.size)) (hI : ts_I tab D cA A H0 u H locs)
    (kk : ∀ (u' : ts_W) (H1 : Heap) (locs1 : List Loc), post u' → ts_I tab D cA A H0 u' H1 locs1 → (∀ q : Nat, q < H.size → ¬ ts_A u H.size q → H1[q]? = H[q]?) → W p l e R s m args below meth c H1 locs1 (cells + mc) (slots + ms) Q (F0 m (pc + 3) ls rest)) : W p l e R s m args below meth c H locs cells slots Q (F0 m pc ls st0) :=
  va_callv hr hI.2.2 (fun q _ h => hI.2.1 q h) (fun q h => hI.2.1 q h) (fun u1 t H1 locs1 ht hvm hp hB hz hk hS => by
    subst ht
    exact kk u1 _ locs1 hp ⟨hB.1, fun q h => hI.2.1 q (hB.2 q h), hS⟩ hk)
theorem ts_rf_r {am : ts_Am} {k : Nat} {z : Int} (h : 0 ≤ z) : va_rf (ts_R am k z) = .ref (am k z.toNat) := by
  unfold ts_R
  rw [if_neg (by omega)]
  rfl
theorem ts_rf_n {am : ts_Am} {k : Nat} {z : Int} (h : z < 0) : va_rf (ts_R am k z) = .null := by
  unfold ts_R
  rw [if_pos h]
  rfl
theorem zc_q {k : Nat} {post : Int → ts_W → Prop} (hr : va_Run p l e R s m args below meth c H locs cells slots mc ms (F0 m pc ls st0) rest (zQq tab D cA u H.size k post a) (ts_A u H.size)) (hI : ts_I tab D cA A H0 u H locs)
    (kn : ∀ (u' : ts_W) (H1 : Heap) (locs1 : List Loc), post (-1) u' → ts_I tab D cA A H0 u' H1 locs1 → (∀ q : Nat, q < H.size → ¬ ts_A u H.size q → H1[q]? = H[q]?) → W p l e R s m args below meth c H1 locs1 (cells + mc) (slots + ms) Q (F0 m (pc + 3) ls (.null :: rest)))
    (kk : ∀ (j : Nat) (u' : ts_W) (H1 : Heap) (locs1 : List Loc), j < u'.1 k → post (j : Int) u' → ts_I tab D cA A H0 u' H1 locs1 → (∀ q : Nat, q < H.size → ¬ ts_A u H.size q → H1[q]? = H[q]?) → W p l e R s m args below meth c H1 locs1 (cells + mc) (slots + ms) Q (F0 m (pc + 3) ls (.ref (u'.2.1 k j) :: rest))) : W p l e R s m args below meth c H locs cells slots Q (F0 m pc ls st0) :=
  va_callq hr hI.2.2 (fun q _ h => hI.2.1 q h) (fun q h => hI.2.1 q h) (fun r u1 t H1 locs1 ht hvm hp hB hz hk hS => by
    obtain ⟨z, rfl, hz1, hz2, hp⟩ := hp
    subst ht
    by_cases h0 : z < 0
    · rw [ts_rf_n h0]
      obtain rfl : z = -1 := by omega
      exact kn u1 _ locs1 hp ⟨hB.1, fun q h => hI.2.1 q (hB.2 q h), hS⟩ hk
    · obtain ⟨j, rfl⟩ := Int.eq_ofNat_of_zero_le (Int.not_lt.mp h0)
      rw [ts_rf_r (Int.not_lt.mp h0)]
      exact kk j u1 _ locs1 (by omega) hp ⟨hB.1, fun q h => hI.2.1 q (hB.2 q h), hS⟩ hk)
/-- behind a call that may throw; a throw goes on to the caller -/
theorem zx_out {Qc0 : Array Value → State → Outcome → State → Prop} {px : String → Prop} {E : String} {ce : Cell} {q : Addr} {mc0 ms0 : Nat} (hI : ts_I tab D cA (ts_A u s.heap.size) s.heap u H locs) (hout : ∀ x ∈ c.exceptionTable.toList, False) (hlocks : meth.locks = false) (hcell : H[q]? = some ce) (hv : ce.vm = .none) (hcl : s.vm.findClass E = some ce.cls) (hp : px E) (hc : cells ≤ mc0) (hs : slots ≤ ms0) :
    vx_W p l e R s m args below meth c H locs cells slots (vx_MQ below Qc0 (zXX tab D cA u s.heap.size px) args s mc0 ms0 (ts_A u s.heap.size)) (F0 m pc ls rest) q :=
  vx_out (fun x h => (hout x h).elim) hlocks hcell hv hcl (fun t ht hvm => ⟨(), trivial, ⟨hp, by rw [ht]; exact hI.1, by rw [ht]; exact hI.2.1⟩, hI.2.2.F ht⟩) hI.2.2.2.2 hc hs
theorem zxc_i {post : Int → ts_W → Prop} {Qc0 : Array Value → State → Outcome → State → Prop} {px px0 : String → Prop} {mc0 ms0 : Nat} (hr : vx_Run p l e R s m args below meth c H locs cells slots mc ms (F0 m pc ls st0) rest (zQi tab D cA u H.size post a) (zXX tab D cA u H.size px) (ts_A u H.size)) (hI : ts_I tab D cA (ts_A u s.heap.size) s.heap u H locs) (hout : ∀ x ∈ c.exceptionTable.toList, False) (hlocks : meth.locks = false) (hpx : ∀ E, px E → px0 E) (hc : cells + mc ≤ mc0) (hs : slots + ms ≤ ms0)
    (kk : ∀ (z : Int) (u' : ts_W) (H1 : Heap) (locs1 : List Loc), iR z → post z u' → ts_I tab D cA (ts_A u s.heap.size) s.heap u' H1 locs1 → W p l e R s m args below meth c H1 locs1 (cells + mc) (slots + ms) (vx_MQ below Qc0 (zXX tab D cA u s.heap.size px0) args s mc0 ms0 (ts_A u s.heap.size)) (F0 m (pc + 3) ls (.int (iZ z) :: rest))) : W p l e R s m args below meth c H locs cells slots (vx_MQ below Qc0 (zXX tab D cA u s.heap.size px0) args s mc0 ms0 (ts_A u s.heap.size)) (F0 m pc ls st0) :=
  vx_calli hr hI.2.2 (fun q _ h => hI.2.1 q h) (fun q h => hI.2.1 q h) (fun q _ h => hI.2.1 q h) (fun E ce q9 u1 t H1 locs1 ht hvm _ hB hz hk hS hcell hv hcl => by
    subst ht
    exact zx_out ⟨hB.2.1, fun q h => hI.2.1 q (hB.2.2 q h), hS⟩ hout hlocks hcell hv hcl (hpx E hB.1) hc hs) (fun r u1 t H1 locs1 ht hvm hp hB hz hk hS => by
    obtain ⟨z, rfl, hz2, hp⟩ := hp
    subst ht
    exact kk z u1 _ locs1 hz2 hp ⟨hB.1, fun q h => hI.2.1 q (hB.2 q h), hS⟩)
theorem zxc_q {k : Nat} {post : Int → ts_W → Prop} {Qc0 : Array Value → State → Outcome → State → Prop} {px px0 : String → Prop} {mc0 ms0 : Nat} (hr : vx_Run p l e R s m args below meth c H locs cells slots mc ms (F0 m pc ls st0) rest (zQq tab D cA u H.size k post a) (zXX tab D cA u H.size px) (ts_A u H.size)) (hI : ts_I tab D cA (ts_A u s.heap.size) s.heap u H locs) (hout : ∀ x ∈ c.exceptionTable.toList, False) (hlocks : meth.locks = false) (hpx : ∀ E, px E → px0 E) (hc : cells + mc ≤ mc0) (hs : slots + ms ≤ ms0) (hnn : ∀ z u', post z u' → 0 ≤ z)
    (kk : ∀ (j : Nat) (u' : ts_W) (H1 : Heap) (locs1 : List Loc), j < u'.1 k → post (j : Int) u' → ts_I tab D cA (ts_A u s.heap.size) s.heap u' H1 locs1 → W p l e R s m args below meth c H1 locs1 (cells + mc) (slots + ms) (vx_MQ below Qc0 (zXX tab D cA u s.heap.size px0) args s mc0 ms0 (ts_A u s.heap.size)) (F0 m (pc + 3) ls (.ref (u'.2.1 k j) :: rest))) : W p l e R s m args below meth c H locs cells slots (vx_MQ below Qc0 (zXX tab D cA u s.heap.size px0) args s mc0 ms0 (ts_A u s.heap.size)) (F0 m pc ls st0) :=
  vx_callq hr hI.2.2 (fun q _ h => hI.2.1 q h) (fun q h => hI.2.1 q h) (fun q _ h => hI.2.1 q h) (fun E ce q9 u1 t H1 locs1 ht hvm _ hB hz hk hS hcell hv hcl => by
    subst ht
    exact zx_out ⟨hB.2.1, fun q h => hI.2.1 q (hB.2.2 q h), hS⟩ hout hlocks hcell hv hcl (hpx E hB.1) hc hs) (fun r u1 t H1 locs1 ht hvm hp hB hz hk hS => by
    obtain ⟨z, rfl, -, hz2, hp⟩ := hp
    subst ht
    obtain ⟨j, rfl⟩ := Int.eq_ofNat_of_zero_le (hnn z u1 hp)
    rw [ts_rf_r (hnn _ u1 hp)]
    exact kk j u1 _ locs1 (by omega) hp ⟨hB.1, fun q h => hI.2.1 q (hB.2 q h), hS⟩)
/-- ends -/
theorem ze_i {post : Int → ts_W → Prop} {ty : FieldType} {z : Int} (hx : p.tables.exec = Jvm.exec) (hb : c.code = cc) (hr : meth.sig.returnType = some ty) (hn : narrow ty (.int (iZ z)) = .int (iZ z)) (hI : ts_I tab D cA (ts_A u s.heap.size) s.heap u' H locs) (hz : iR z) (hp : post z u') (hc : cells ≤ mc) (hs : slots ≤ ms) (hdg : decode cc pc = .ok (.ireturn, 1)) (hlocks : meth.locks = false) : W p l e R s m args below meth c H locs cells slots (MQ below (zQi tab D cA u s.heap.size post) args s mc ms (ts_A u s.heap.size)) (F0 m pc ls [.int (iZ z)]) :=
  W.widen hc hs (W.zret hx hb hr hn (fun t ht hW => ⟨⟨iZ z, u', rfl, ⟨z, rfl, hz, hp⟩, by rw [ht]; exact hI.1, by rw [ht]; exact hI.2.1⟩, hI.2.2.F ht⟩) hI.2.2.2.2 hdg hlocks)
theorem ze_l {post : Int → ts_W → Prop} {z : Int} (hx : p.tables.exec = Jvm.exec) (hb : c.code = cc) (hr : meth.sig.returnType = some .long) (hI : ts_I tab D cA (ts_A u s.heap.size) s.heap u' H locs) (hp : post z u') (hc : cells ≤ mc) (hs : slots ≤ ms) (hdg : decode cc pc = .ok (.lreturn, 1)) (hlocks : meth.locks = false) : W p l e R s m args below meth c H locs cells slots (MQ below (zQl tab D cA u s.heap.size post) args s mc ms (ts_A u s.heap.size)) (F0 m pc ls [.long (lZ z)]) :=
  W.widen hc hs (W.lret hx hb hr (fun t ht hW => ⟨⟨lZ z, u', rfl, ⟨z, rfl, hp⟩, by rw [ht]; exact hI.1, by rw [ht]; exact hI.2.1⟩, hI.2.2.F ht⟩) hI.2.2.2.2 hdg hlocks)
theorem ze_f {post : UInt32 → ts_W → Prop} {z : UInt32} (hx : p.tables.exec = Jvm.exec) (hb : c.code = cc) (hr : meth.sig.returnType = some .float) (hI : ts_I tab D cA (ts_A u s.heap.size) s.heap u' H locs) (hp : post z u') (hc : cells ≤ mc) (hs : slots ≤ ms) (hdg : decode cc pc = .ok (.freturn, 1)) (hlocks : meth.locks = false) : W p l e R s m args below meth c H locs cells slots (MQ below (zQf tab D cA u s.heap.size post) args s mc ms (ts_A u s.heap.size)) (F0 m pc ls [.float z]) :=
  W.widen hc hs (W.fret hx hb hr (fun t ht hW => ⟨⟨z, u', rfl, hp, by rw [ht]; exact hI.1, by rw [ht]; exact hI.2.1⟩, hI.2.2.F ht⟩) hI.2.2.2.2 hdg hlocks)
theorem ze_d {post : UInt64 → ts_W → Prop} {z : UInt64} (hx : p.tables.exec = Jvm.exec) (hb : c.code = cc) (hr : meth.sig.returnType = some .double) (hI : ts_I tab D cA (ts_A u s.heap.size) s.heap u' H locs) (hp : post z u') (hc : cells ≤ mc) (hs : slots ≤ ms) (hdg : decode cc pc = .ok (.dreturn, 1)) (hlocks : meth.locks = false) : W p l e R s m args below meth c H locs cells slots (MQ below (zQd tab D cA u s.heap.size post) args s mc ms (ts_A u s.heap.size)) (F0 m pc ls [.double z]) :=
  W.widen hc hs (W.dret hx hb hr (fun t ht hW => ⟨⟨z, u', rfl, hp, by rw [ht]; exact hI.1, by rw [ht]; exact hI.2.1⟩, hI.2.2.F ht⟩) hI.2.2.2.2 hdg hlocks)
theorem ze_v {post : ts_W → Prop} (hx : p.tables.exec = Jvm.exec) (hb : c.code = cc) (hr : meth.sig.returnType = none) (hI : ts_I tab D cA (ts_A u s.heap.size) s.heap u' H locs) (hp : post u') (hc : cells ≤ mc) (hs : slots ≤ ms) (hdg : decode cc pc = .ok (.return_, 1)) (hlocks : meth.locks = false) : W p l e R s m args below meth c H locs cells slots (MQ below (zQv tab D cA u s.heap.size post) args s mc ms (ts_A u s.heap.size)) (F0 m pc ls []) :=
  W.widen hc hs (W.vret hx hb hr (fun t ht hW => ⟨⟨u', rfl, hp, by rw [ht]; exact hI.1, by rw [ht]; exact hI.2.1⟩, hI.2.2.F ht⟩) hI.2.2.2.2 hdg hlocks)
theorem ze_q {post : Int → ts_W → Prop} {ty : FieldType} {k : Nat} {z : Int} {v : Value} (hx : p.tables.exec = Jvm.exec) (hb : c.code = cc) (hr : meth.sig.returnType = some ty) (hrt : (∃ n, ty = .object n) ∨ ∃ t, ty = .array t) (hI : ts_I tab D cA (ts_A u s.heap.size) s.heap u' H locs) (hv : v = va_rf (ts_R u'.2.1 k z)) (hz1 : -1 ≤ z) (hz : z < (u'.1 k : Int)) (hp : post z u') (hc : cells ≤ mc) (hs : slots ≤ ms) (hdg : decode cc pc = .ok (.areturn, 1)) (hlocks : meth.locks = false) : W p l e R s m args below meth c H locs cells slots (MQ below (zQq tab D cA u s.heap.size k post) args s mc ms (ts_A u s.heap.size)) (F0 m pc ls [v]) := by
  subst hv
  refine W.widen hc hs (W.aret hx hb hr hrt ?_ (fun t ht hW => ⟨⟨ts_R u'.2.1 k z, u', rfl, ⟨z, rfl, hz1, hz, hp⟩, by rw [ht]; exact hI.1, by rw [ht]; exact hI.2.1⟩, hI.2.2.F ht⟩) hI.2.2.2.2 hdg hlocks)
  cases ts_R u'.2.1 k z with
  | none => exact Or.inl rfl
  | some q => exact Or.inr ⟨q, rfl⟩
end ZC
/-- a contract from the walk of its body -/
theorem zM_of {l : Launch} {y : MethodName} {ws ws' : List Cond} {rm : Room} {av : List Value} {tab : ts_Tab} {D : va_G} {cA : Nat → ClassId} {u : ts_W} {sz : Nat} {Qc : Array Value → State → Outcome → State → Prop} {mc ms : Nat} {cc : ByteArray} {maxL : Nat} {ret : Option FieldType} (hy : plainName y.cls = true) (hw : ws = Cond.code y cc maxL ret :: ws') (hlen : (lg_sl av).length ≤ maxL)
    (body : ∀ (p : Program) (e : Env) (s : State) (m : MethodId) (below : List Frame) (meth : Method) (c : Code), p.tables.exec = Jvm.exec → c.code = cc → meth.sig.returnType = ret → (∀ w ∈ ws, w.before av.toArray s = true) → s.vm.findClass y.cls = some m.cls → meth.locks = false → c.maxLocals = maxL → (meth.name = y.name) → ts_K tab D cA s → s.heap.size = sz → ∀ (H : Heap) (locs : List Loc), ts_I tab D cA (ts_A u s.heap.size) s.heap u H locs → ∀ ls : Array Slot, lv_has ls maxL (lv_args 0 av) → W p l e (headSpec ws rm).room s m av.toArray below meth c H locs 0 0 (MQ below Qc av.toArray s mc ms (ts_A u sz)) (F0 m 0 ls [])) :
    Met l y ws rm (va_Pc av (zP tab D cA u sz)) Qc mc ms (ts_A u sz) := by
  refine Met.ofW hy hw ?_
  intro p e s m args below meth c s₁ B hml hv
  obtain ⟨rfl, hsz, hP, hK⟩ := hv
  rw [lg_entry_eq]
  refine body p e s m below meth c B.exec B.bytes B.returns (atoms_spec (ws := ws) B.pre) (findClass_of_methodNamed B.named) B.notSynchronized hml (name_of_methodNamed B.named B.method).1 hK hsz _ _ ⟨hP, fun q h => h, va_S.rf⟩ _ ?_
  exact lv_entry av hlen
theorem zMx_of {l : Launch} {y : MethodName} {ws ws' : List Cond} {rm : Room} {av : List Value} {tab : ts_Tab} {D : va_G} {cA : Nat → ClassId} {u : ts_W} {sz : Nat} {Qc : Array Value → State → Outcome → State → Prop} {XC : String → State → State → Prop} {mc ms : Nat} {cc : ByteArray} {maxL : Nat} {ret : Option FieldType} (hy : plainName y.cls = true) (hw : ws = Cond.code y cc maxL ret :: ws') (hlen : (lg_sl av).length ≤ maxL)
    (body : ∀ (p : Program) (e : Env) (s : State) (m : MethodId) (below : List Frame) (meth : Method) (c : Code), p.tables.exec = Jvm.exec → c.code = cc → meth.sig.returnType = ret → (∀ w ∈ ws, w.before av.toArray s = true) → s.vm.findClass y.cls = some m.cls → meth.locks = false → c.maxLocals = maxL → (∀ x ∈ c.exceptionTable.toList, False) → ts_K tab D cA s → gX (ts_A u sz) s s.heap → s.heap.size = sz → ∀ (H : Heap) (locs : List Loc), ts_I tab D cA (ts_A u s.heap.size) s.heap u H locs → ∀ ls : Array Slot, lv_has ls maxL (lv_args 0 av) → W p l e (headSpec ws rm).room s m av.toArray below meth c H locs 0 0 (vx_MQ below Qc XC av.toArray s mc ms (ts_A u sz)) (F0 m 0 ls [])) :
    vx_Met l y ws rm (va_Pc av (zPX tab D cA u sz)) Qc XC mc ms (ts_A u sz) := by
  refine vx_ofW hy hw ?_
  intro p e s m args below meth c s₁ B hml hex hv
  obtain ⟨rfl, ⟨hsz, hP, hK⟩, hG⟩ := hv
  rw [lg_entry_eq]
  refine body p e s m below meth c B.exec B.bytes B.returns (atoms_spec (ws := ws) B.pre) (findClass_of_methodNamed B.named) B.notSynchronized hml hex hK hG hsz _ _ ⟨hP, fun q h => h, va_S.rf⟩ _ ?_
  exact lv_entry av hlen
end
section
/-! 'throw new X(text)' of the class: whatever stood in the store stands there behind it. -/
def gX_names : List String := ["java/lang/RuntimeException", "java/lang/Exception"]
theorem gX_fit : ∀ n ∈ gX_names, Bundle.fit n = true := by decide +kernel
theorem gX_hat {A : Nat → Prop} {s : State} {H : Heap} {args : Array Value} {L : List Cond} {X : String} (hG : gX A s H) (hX : X ∈ gX_cls) (h1 : ∀ w ∈ L.filter goodWord, w.before args s = true) (h2 : ∀ w ∈ L.filter (fun w => !goodWord w), w ∈ [.declares (Bundle.initS "java/lang/RuntimeException"), .declares (Bundle.initS "java/lang/Exception"), .declares (Bundle.initS "java/lang/Throwable"), .castable X X]) : ∀ w ∈ L, w.before args s = true :=
  vx_hat h1 h2 (vx_c (va_Nw.use rfl (hG.2.2.2.2 _ (by decide +kernel))) (vx_c (va_Nw.use rfl (hG.2.2.2.2 _ (by decide +kernel))) (vx_c (va_Nw.use rfl (hG.2.2.2.2 _ (by decide +kernel))) (vx_c (va_Nw.use rfl (hG.2.2.2.1 _ hX)) vx_n))))
section ZT
variable {p : Program} {l : Launch} {e : Env} {R : Room} {s : State} {m : MethodId} {args : Array Value} {below : List Frame} {meth : Method} {c : Code} {H : Heap} {locs : List Loc} {cells slots : Nat} {Q : State → Prop} {cc : ByteArray} {pc : Nat} {ls : Array Slot} {rest : List Value}
variable {tab : ts_Tab} {D : va_G} {cA : Nat → ClassId} {u : ts_W} {Qc : Array Value → State → Outcome → State → Prop} {px : String → Prop} {cls text : String} {ik is ic mc ms : Nat}
theorem zx_throw (hx : p.tables.exec = Jvm.exec) (hb : c.code = cc) (hl : l.stackTraces = false) (hown : s.vm.findClass RX4 = some m.cls) (hG : gX (ts_A u s.heap.size) s s.heap) (hI : ts_I tab D cA (ts_A u s.heap.size) s.heap u H locs) (hX : cls ∈ gX_cls) (hcls : Bundle.fit cls = true)
    (hk : (Cond.classLink RX4 ik cls).before args s = true) (hini : (Cond.initialized cls).before args s = true) (h1 : ∀ w ∈ (vx_atS RX4 ic cls gX_names).filter goodWord, w.before args s = true) (h2 : ∀ w ∈ (vx_atS RX4 ic cls gX_names).filter (fun w => !goodWord w), w ∈ [.declares (Bundle.initS "java/lang/RuntimeException"), .declares (Bundle.initS "java/lang/Exception"), .declares (Bundle.initS "java/lang/Throwable"), .castable cls cls])
    (hgood : ∀ w ∈ Cond.classLink RX4 ik cls :: Cond.initialized cls :: vx_atS RX4 ic cls gX_names, vx_ot w = true) (hstr : (is, text) ∈ gX_strs) (hsize : ls.size = c.maxLocals)
    (d0 : decode cc pc = .ok (.new ik, 3)) (d3 : decode cc (pc + 3) = .ok (.dup, 1)) (d4 : decode cc (pc + 4) = .ok (.ldc is, 2)) (d6 : decode cc (pc + 6) = .ok (.invokespecial ic, 3)) (d9 : decode cc (pc + 9) = .ok (.athrow, 1)) (hout : ∀ x ∈ c.exceptionTable.toList, False)
    (hRf : 5 < R.frames) (hRl : (rest.map fun v => v.category).sum + 82 ≤ R.locals) (hRc : cells + 1 ≤ R.cells) (hRs : slots + 6 ≤ R.slots) (hlocks : meth.locks = false) (hp : px cls) (hc : cells + 1 ≤ mc) (hs : slots + 6 ≤ ms) :
    W p l e R s m args below meth c H locs cells slots (vx_MQ below Qc (zXX tab D cA u s.heap.size px) args s mc ms (ts_A u s.heap.size)) (F0 m pc ls rest) := by
  obtain ⟨sa, hsa⟩ := hG.2.2.1 _ hstr
  refine vx_throwS hx hb hl (names := gX_names) (A := ts_A u s.heap.size) hown hcls gX_fit hk hini hsa (gX_hat hG hX h1 h2) hgood hG.1 hG.2.1 hI.2.2 hsize d0 d3 d4 d6 d9 (fun x h => (hout x h).elim) hRf hRl hRc hRs hlocks (fun t hvm hz hq => ?_) hI.2.2.2.2 hc hs
  refine ⟨(), trivial, ⟨hp, ⟨fun κ i hi => (hI.1.1 κ i hi).kept (hq _ (hI.1.1 κ i hi).lt), hI.1.2⟩, fun q h => ?_⟩, Nat.le_trans hI.2.2.1 hz, fun q h1 h2 => (hq q (Nat.lt_of_lt_of_le h1 hI.2.2.1)).trans (hI.2.2.2.1 q h1 h2)⟩
  rcases h with h | h
  · exact Or.inl h
  · exact Or.inr (Nat.le_trans hI.2.2.1 (Nat.le_trans hz h))
theorem zx_throwW (hx : p.tables.exec = Jvm.exec) (hb : c.code = cc) (hl : l.stackTraces = false) (hown : s.vm.findClass RX4 = some m.cls) (hG : gX (ts_A u s.heap.size) s s.heap) (hI : ts_I tab D cA (ts_A u s.heap.size) s.heap u H locs) (hX : cls ∈ gX_cls) (hcls : Bundle.fit cls = true)
    (hk : (Cond.classLink RX4 ik cls).before args s = true) (hini : (Cond.initialized cls).before args s = true) (h1 : ∀ w ∈ (vx_atS RX4 ic cls gX_names).filter goodWord, w.before args s = true) (h2 : ∀ w ∈ (vx_atS RX4 ic cls gX_names).filter (fun w => !goodWord w), w ∈ [.declares (Bundle.initS "java/lang/RuntimeException"), .declares (Bundle.initS "java/lang/Exception"), .declares (Bundle.initS "java/lang/Throwable"), .castable cls cls])
    (hgood : ∀ w ∈ Cond.classLink RX4 ik cls :: Cond.initialized cls :: vx_atS RX4 ic cls gX_names, vx_ot w = true) (hstr : (is, text) ∈ gX_strs) (hsize : ls.size = c.maxLocals)
    (d0 : decode cc pc = .ok (.new ik, 3)) (d3 : decode cc (pc + 3) = .ok (.dup, 1)) (d4 : decode cc (pc + 4) = .ok (.ldc_w is, 3)) (d6 : decode cc (pc + 7) = .ok (.invokespecial ic, 3)) (d9 : decode cc (pc + 10) = .ok (.athrow, 1)) (hout : ∀ x ∈ c.exceptionTable.toList, False)
    (hRf : 5 < R.frames) (hRl : (rest.map fun v => v.category).sum + 82 ≤ R.locals) (hRc : cells + 1 ≤ R.cells) (hRs : slots + 6 ≤ R.slots) (hlocks : meth.locks = false) (hp : px cls) (hc : cells + 1 ≤ mc) (hs : slots + 6 ≤ ms) :
    W p l e R s m args below meth c H locs cells slots (vx_MQ below Qc (zXX tab D cA u s.heap.size px) args s mc ms (ts_A u s.heap.size)) (F0 m pc ls rest) := by
  obtain ⟨sa, hsa⟩ := hG.2.2.1 _ hstr
  refine vx_throwSW hx hb hl (names := gX_names) (A := ts_A u s.heap.size) hown hcls gX_fit hk hini hsa (gX_hat hG hX h1 h2) hgood hG.1 hG.2.1 hI.2.2 hsize d0 d3 d4 d6 d9 (fun x h => (hout x h).elim) hRf hRl hRc hRs hlocks (fun t hvm hz hq => ?_) hI.2.2.2.2 hc hs
  refine ⟨(), trivial, ⟨hp, ⟨fun κ i hi => (hI.1.1 κ i hi).kept (hq _ (hI.1.1 κ i hi).lt), hI.1.2⟩, fun q h => ?_⟩, Nat.le_trans hI.2.2.1 hz, fun q h1 h2 => (hq q (Nat.lt_of_lt_of_le h1 hI.2.2.1)).trans (hI.2.2.2.1 q h1 h2)⟩
  rcases h with h | h
  · exact Or.inl h
  · exact Or.inr (Nat.le_trans hI.2.2.1 (Nat.le_trans hz h))
end ZT
abbrev xN_IAE : String := "java/lang/IllegalArgumentException"
set_option maxRecDepth 20000 in
theorem xA_IAE : ∀ w ∈ (vx_atS RX4 52 xN_IAE gX_names).filter (fun w => !goodWord w), w ∈ [.declares (Bundle.initS "java/lang/RuntimeException"), .declares (Bundle.initS "java/lang/Exception"), .declares (Bundle.initS "java/lang/Throwable"), .castable xN_IAE xN_IAE] := by decide +kernel
set_option maxRecDepth 20000 in
theorem xO_IAE : ∀ w ∈ Cond.classLink RX4 48 xN_IAE :: Cond.initialized xN_IAE :: vx_atS RX4 52 xN_IAE gX_names, vx_ot w = true := by decide +kernel
theorem xC_IAE : xN_IAE ∈ gX_cls := by decide +kernel
theorem xF_IAE : Bundle.fit xN_IAE = true := by decide +kernel
abbrev xN_ISE : String := "java/lang/IllegalStateException"
set_option maxRecDepth 20000 in
theorem xA_ISE : ∀ w ∈ (vx_atS RX4 62 xN_ISE gX_names).filter (fun w => !goodWord w), w ∈ [.declares (Bundle.initS "java/lang/RuntimeException"), .declares (Bundle.initS "java/lang/Exception"), .declares (Bundle.initS "java/lang/Throwable"), .castable xN_ISE xN_ISE] := by decide +kernel
set_option maxRecDepth 20000 in
theorem xO_ISE : ∀ w ∈ Cond.classLink RX4 58 xN_ISE :: Cond.initialized xN_ISE :: vx_atS RX4 62 xN_ISE gX_names, vx_ot w = true := by decide +kernel
theorem xC_ISE : xN_ISE ∈ gX_cls := by decide +kernel
theorem xF_ISE : Bundle.fit xN_ISE = true := by decide +kernel
abbrev xN_UOE : String := "java/lang/UnsupportedOperationException"
set_option maxRecDepth 20000 in
theorem xA_UOE : ∀ w ∈ (vx_atS RX4 124 xN_UOE gX_names).filter (fun w => !goodWord w), w ∈ [.declares (Bundle.initS "java/lang/RuntimeException"), .declares (Bundle.initS "java/lang/Exception"), .declares (Bundle.initS "java/lang/Throwable"), .castable xN_UOE xN_UOE] := by decide +kernel
set_option maxRecDepth 20000 in
theorem xO_UOE : ∀ w ∈ Cond.classLink RX4 120 xN_UOE :: Cond.initialized xN_UOE :: vx_atS RX4 124 xN_UOE gX_names, vx_ot w = true := by decide +kernel
theorem xC_UOE : xN_UOE ∈ gX_cls := by decide +kernel
theorem xF_UOE : Bundle.fit xN_UOE = true := by decide +kernel
abbrev xN_NSE : String := "java/util/NoSuchElementException"
set_option maxRecDepth 20000 in
theorem xA_NSE : ∀ w ∈ (vx_atS RX4 146 xN_NSE gX_names).filter (fun w => !goodWord w), w ∈ [.declares (Bundle.initS "java/lang/RuntimeException"), .declares (Bundle.initS "java/lang/Exception"), .declares (Bundle.initS "java/lang/Throwable"), .castable xN_NSE xN_NSE] := by decide +kernel
set_option maxRecDepth 20000 in
theorem xO_NSE : ∀ w ∈ Cond.classLink RX4 142 xN_NSE :: Cond.initialized xN_NSE :: vx_atS RX4 146 xN_NSE gX_names, vx_ot w = true := by decide +kernel
theorem xC_NSE : xN_NSE ∈ gX_cls := by decide +kernel
theorem xF_NSE : Bundle.fit xN_NSE = true := by decide +kernel
abbrev xN_IOB : String := "java/lang/IndexOutOfBoundsException"
set_option maxRecDepth 20000 in
theorem xA_IOB : ∀ w ∈ (vx_atS RX4 172 xN_IOB gX_names).filter (fun w => !goodWord w), w ∈ [.declares (Bundle.initS "java/lang/RuntimeException"), .declares (Bundle.initS "java/lang/Exception"), .declares (Bundle.initS "java/lang/Throwable"), .castable xN_IOB xN_IOB] := by decide +kernel
set_option maxRecDepth 20000 in
theorem xO_IOB : ∀ w ∈ Cond.classLink RX4 168 xN_IOB :: Cond.initialized xN_IOB :: vx_atS RX4 172 xN_IOB gX_names, vx_ot w = true := by decide +kernel
theorem xC_IOB : xN_IOB ∈ gX_cls := by decide +kernel
theorem xF_IOB : Bundle.fit xN_IOB = true := by decide +kernel
abbrev xN_ARE : String := "java/lang/ArithmeticException"
set_option maxRecDepth 20000 in
theorem xA_ARE : ∀ w ∈ (vx_atS RX4 236 xN_ARE gX_names).filter (fun w => !goodWord w), w ∈ [.declares (Bundle.initS "java/lang/RuntimeException"), .declares (Bundle.initS "java/lang/Exception"), .declares (Bundle.initS "java/lang/Throwable"), .castable xN_ARE xN_ARE] := by decide +kernel
set_option maxRecDepth 20000 in
theorem xO_ARE : ∀ w ∈ Cond.classLink RX4 232 xN_ARE :: Cond.initialized xN_ARE :: vx_atS RX4 236 xN_ARE gX_names, vx_ot w = true := by decide +kernel
theorem xC_ARE : xN_ARE ∈ gX_cls := by decide +kernel
theorem xF_ARE : Bundle.fit xN_ARE = true := by decide +kernel
end
section
/-! Arrays of a typed store: loads, stores, lengths; new objects and arrays. -/
theorem ts_K_arr {tab : ts_Tab} {D : va_G} {cA : Nat → ClassId} {s : State} {κ len t : Nat} {ty : FieldType} (hK : ts_K tab D cA s) (htab : tab κ = .inr (len, t, ty)) : va_K D vwCl [(cA κ, ty)] s := by
  refine ⟨hK.1.1, fun k q hk => ?_⟩
  have hz : k < 1 := (List.getElem?_eq_some_iff.mp hk).1
  rw [show k = 0 by omega] at hk
  cases hk
  exact hK.2 κ _ htab
theorem ts_P_arr {tab : ts_Tab} {D : va_G} {cA : Nat → ClassId} {n : Nat → Nat} {am : ts_Am} {S : ts_St} {H : Heap} {κ i len t : Nat} {ty : FieldType} (h : ts_P tab D cA (n, am, S) H) (hi : i < n κ) (htab : tab κ = .inr (len, t, ty)) : va_P D vwCl [(am κ i, .inl (cA κ, len, ts_F am t (S κ i)))] H := fun j q hj => by
  have hz : j < 1 := (List.getElem?_eq_some_iff.mp hj).1
  rw [show j = 0 by omega] at hj
  cases hj
  have h1 := h.1 κ i hi
  dsimp only at h1
  rw [ts_E_arr htab] at h1
  exact h1
section TAR
variable {p : Program} {l : Launch} {e : Env} {R : Room} {s : State} {m : MethodId} {args : Array Value} {below : List Frame} {meth : Method} {c : Code} {H : Heap} {locs : List Loc} {cells slots : Nat} {Q : State → Prop} {cc : ByteArray} {pc : Nat} {ls : Array Slot} {rest : List Value}
variable {tab : ts_Tab} {D : va_G} {cA : Nat → ClassId} {A : Nat → Prop} {H0 : Heap} {n : Nat → Nat} {am : ts_Am} {S : ts_St} {κ i len : Nat}
theorem zal {t : Nat} {ty : FieldType} (hexec : p.tables.exec = Jvm.exec) (hb : c.code = cc) (hK : ts_K tab D cA s) (hI : ts_I tab D cA A H0 (n, am, S) H locs) (hi : i < n κ) (htab : tab κ = .inr (len, t, ty)) (hdg : decode cc pc = .ok (.arraylength, 1))
    (kk : W p l e R s m args below meth c H locs cells slots Q (F0 m (pc + 1) ls (.int (iZ (len : Int)) :: rest))) : W p l e R s m args below meth c H locs cells slots Q (F0 m pc ls (.ref (am κ i) :: rest)) :=
  va_alen hexec hb (ts_K_arr hK htab) (ts_P_arr hI.1 hi htab) 0 0 rfl rfl (v := iZ (len : Int)) ((iZ_nI len).symm) hdg kk
theorem za_i {j z : Int} (hexec : p.tables.exec = Jvm.exec) (hb : c.code = cc) (hK : ts_K tab D cA s) (hI : ts_I tab D cA A H0 (n, am, S) H locs) (hi : i < n κ) (htab : tab κ = .inr (len, 0, .int)) (h0 : 0 ≤ j) (hj : j < (len : Int)) (hR : iR j) (hdg : decode cc pc = .ok (.iaload, 1)) (hz : S κ i j.toNat = z)
    (kk : ts_bd z → W p l e R s m args below meth c H locs cells slots Q (F0 m (pc + 1) ls (.int (iZ z) :: rest))) : W p l e R s m args below meth c H locs cells slots Q (F0 m pc ls (.int (iZ j) :: .ref (am κ i) :: rest)) := by
  refine va_iald (f := fun j => iZ (S κ i j)) hexec hb (ts_K_arr hK htab) (ts_P_arr hI.1 hi htab) 0 0 rfl rfl (iZ_in h0 hj hR) hdg ?_
  rw [iZ_cl hR]
  subst hz
  exact kk (hI.1.2.2.1 κ i j.toNat (by rw [ts_ty_arr htab]; decide))
theorem za_c {j z : Int} (hexec : p.tables.exec = Jvm.exec) (hb : c.code = cc) (hK : ts_K tab D cA s) (hI : ts_I tab D cA A H0 (n, am, S) H locs) (hi : i < n κ) (htab : tab κ = .inr (len, 0, .char)) (h0 : 0 ≤ j) (hj : j < (len : Int)) (hR : iR j) (hdg : decode cc pc = .ok (.caload, 1)) (hz : S κ i j.toNat = z)
    (kk : ts_bd z → W p l e R s m args below meth c H locs cells slots Q (F0 m (pc + 1) ls (.int (iZ z) :: rest))) : W p l e R s m args below meth c H locs cells slots Q (F0 m pc ls (.int (iZ j) :: .ref (am κ i) :: rest)) := by
  refine va_cald (f := fun j => iZ (S κ i j)) hexec hb (ts_K_arr hK htab) (ts_P_arr hI.1 hi htab) 0 0 rfl rfl (iZ_in h0 hj hR) hdg ?_
  rw [iZ_cl hR]
  subst hz
  exact kk (hI.1.2.2.1 κ i j.toNat (by rw [ts_ty_arr htab]; decide))
theorem za_z {j z : Int} (hexec : p.tables.exec = Jvm.exec) (hb : c.code = cc) (hK : ts_K tab D cA s) (hI : ts_I tab D cA A H0 (n, am, S) H locs) (hi : i < n κ) (htab : tab κ = .inr (len, 0, .boolean)) (h0 : 0 ≤ j) (hj : j < (len : Int)) (hR : iR j) (hdg : decode cc pc = .ok (.baload, 1)) (hz : S κ i j.toNat = z)
    (kk : ts_bd z → W p l e R s m args below meth c H locs cells slots Q (F0 m (pc + 1) ls (.int (iZ z) :: rest))) : W p l e R s m args below meth c H locs cells slots Q (F0 m pc ls (.int (iZ j) :: .ref (am κ i) :: rest)) := by
  refine va_zald (f := fun j => iZ (S κ i j)) hexec hb (ts_K_arr hK htab) (ts_P_arr hI.1 hi htab) 0 0 rfl rfl (iZ_in h0 hj hR) hdg ?_
  rw [iZ_cl hR]
  subst hz
  exact kk (hI.1.2.2.1 κ i j.toNat (by rw [ts_ty_arr htab]; decide))
theorem zs_i {j z : Int} (hexec : p.tables.exec = Jvm.exec) (hb : c.code = cc) (hK : ts_K tab D cA s) (hI : ts_I tab D cA A H0 (n, am, S) H locs) (hi : i < n κ) (htab : tab κ = .inr (len, 0, .int)) (h0 : 0 ≤ j) (hj : j < (len : Int)) (hR : iR j) (hz : ts_bd z) (hdg : decode cc pc = .ok (.iastore, 1))
    (kk : ∀ (H1 : Heap) (locs1 : List Loc), ts_I tab D cA A H0 (n, am, up3 S κ i j.toNat z) H1 locs1 → W p l e R s m args below meth c H1 locs1 cells slots Q (F0 m (pc + 1) ls rest)) : W p l e R s m args below meth c H locs cells slots Q (F0 m pc ls (.int (iZ z) :: .int (iZ j) :: .ref (am κ i) :: rest)) := by
  have hlt : j.toNat < len := by omega
  have hP := ts_P_arr hI.1 hi htab 0 _ rfl
  refine W.iast hexec hb hP (((ts_K_arr hK htab).2 0 _ rfl).1 len (fun j => .int (iZ (S κ i j)))) (fun q => by cases q) (by show ¬ (iZ j < 0 ∨ (arrV _ _ _).slots.size ≤ _); rw [arrV_size]; exact iZ_in h0 hj hR) rfl rfl hdg fun H1 e z1 oq => ?_
  refine kk H1 _ (hI.put hi ?_ z1 oq (fun _ => hz) (fun t' q => ?_))
  · show va_at D vwCl (am κ i, ts_E tab cA am (up3 S κ i j.toNat z) κ i) H1
    rw [ts_E_arr htab]
    show H1[am κ i]? = some (vp_cell (cA κ) (len, .inl (fun k => iZ (up3 S κ i j.toNat z κ i k))))
    rw [e, vp_cell_i]
    show some ((vp_cell (cA κ) (len, .inl (fun k => iZ (S κ i k)))).setSlot _ _) = _
    rw [vp_cell_i, arrV_store, iZ_cl hR]
    congr 2
    funext q
    by_cases hq : q = j.toNat
    · subst hq
      simp only [updV, up3, and_self, if_true]
      skip
    · simp [updV, up3, hq]
  · rw [ts_ty_arr htab] at q
    cases q
theorem zs_c {j z : Int} (hexec : p.tables.exec = Jvm.exec) (hb : c.code = cc) (hK : ts_K tab D cA s) (hI : ts_I tab D cA A H0 (n, am, S) H locs) (hi : i < n κ) (htab : tab κ = .inr (len, 0, .char)) (h0 : 0 ≤ j) (hj : j < (len : Int)) (hR : iR j) (hz : ts_bd z) (hz0 : 0 ≤ z) (hz1 : z < 65536) (hdg : decode cc pc = .ok (.castore, 1))
    (kk : ∀ (H1 : Heap) (locs1 : List Loc), ts_I tab D cA A H0 (n, am, up3 S κ i j.toNat z) H1 locs1 → W p l e R s m args below meth c H1 locs1 cells slots Q (F0 m (pc + 1) ls rest)) : W p l e R s m args below meth c H locs cells slots Q (F0 m pc ls (.int (iZ z) :: .int (iZ j) :: .ref (am κ i) :: rest)) := by
  have hlt : j.toNat < len := by omega
  have hP := ts_P_arr hI.1 hi htab 0 _ rfl
  refine W.cast hexec hb hP (((ts_K_arr hK htab).2 0 _ rfl).1 len (fun j => .int (iZ (S κ i j)))) (fun q => by cases q) (by show ¬ (iZ j < 0 ∨ (arrV _ _ _).slots.size ≤ _); rw [arrV_size]; exact iZ_in h0 hj hR) rfl rfl hdg fun H1 e z1 oq => ?_
  refine kk H1 _ (hI.put hi ?_ z1 oq (fun _ => hz) (fun t' q => ?_))
  · show va_at D vwCl (am κ i, ts_E tab cA am (up3 S κ i j.toNat z) κ i) H1
    rw [ts_E_arr htab]
    show H1[am κ i]? = some (vp_cell (cA κ) (len, .inl (fun k => iZ (up3 S κ i j.toNat z κ i k))))
    rw [e, vp_cell_i]
    show some ((vp_cell (cA κ) (len, .inl (fun k => iZ (S κ i k)))).setSlot _ _) = _
    rw [vp_cell_i, arrV_store, iZ_cl hR]
    congr 2
    funext q
    by_cases hq : q = j.toNat
    · subst hq
      simp only [updV, up3, and_self, if_true]
      first | rfl | (show narrow _ _ = _; exact (iZ_narc hz0 hz1).1)
    · simp [updV, up3, hq]
  · rw [ts_ty_arr htab] at q
    cases q
theorem zs_z {j z : Int} (hexec : p.tables.exec = Jvm.exec) (hb : c.code = cc) (hK : ts_K tab D cA s) (hI : ts_I tab D cA A H0 (n, am, S) H locs) (hi : i < n κ) (htab : tab κ = .inr (len, 0, .boolean)) (h0 : 0 ≤ j) (hj : j < (len : Int)) (hR : iR j) (hz : ts_bd z) (hz0 : 0 ≤ z) (hz1 : z < 2) (hdg : decode cc pc = .ok (.bastore, 1))
    (kk : ∀ (H1 : Heap) (locs1 : List Loc), ts_I tab D cA A H0 (n, am, up3 S κ i j.toNat z) H1 locs1 → W p l e R s m args below meth c H1 locs1 cells slots Q (F0 m (pc + 1) ls rest)) : W p l e R s m args below meth c H locs cells slots Q (F0 m pc ls (.int (iZ z) :: .int (iZ j) :: .ref (am κ i) :: rest)) := by
  have hlt : j.toNat < len := by omega
  have hP := ts_P_arr hI.1 hi htab 0 _ rfl
  refine W.zast hexec hb hP (((ts_K_arr hK htab).2 0 _ rfl).1 len (fun j => .int (iZ (S κ i j)))) (fun q => by cases q) (by show ¬ (iZ j < 0 ∨ (arrV _ _ _).slots.size ≤ _); rw [arrV_size]; exact iZ_in h0 hj hR) rfl rfl hdg fun H1 e z1 oq => ?_
  refine kk H1 _ (hI.put hi ?_ z1 oq (fun _ => hz) (fun t' q => ?_))
  · show va_at D vwCl (am κ i, ts_E tab cA am (up3 S κ i j.toNat z) κ i) H1
    rw [ts_E_arr htab]
    show H1[am κ i]? = some (vp_cell (cA κ) (len, .inl (fun k => iZ (up3 S κ i j.toNat z κ i k))))
    rw [e, vp_cell_i]
    show some ((vp_cell (cA κ) (len, .inl (fun k => iZ (S κ i k)))).setSlot _ _) = _
    rw [vp_cell_i, arrV_store, iZ_cl hR]
    congr 2
    funext q
    by_cases hq : q = j.toNat
    · subst hq
      simp only [updV, up3, and_self, if_true]
      first | rfl | (show narrow _ _ = _; exact (iZ_narz hz0 hz1).1)
    · simp [updV, up3, hq]
  · rw [ts_ty_arr htab] at q
    cases q
/-- an element that is a reference, null or not -/
theorem za_q {t : Nat} {j : Int} {C : String} (hexec : p.tables.exec = Jvm.exec) (hb : c.code = cc) (hK : ts_K tab D cA s) (hI : ts_I tab D cA A H0 (n, am, S) H locs) (hi : i < n κ) (htab : tab κ = .inr (len, t + 2, .object C)) (h0 : 0 ≤ j) (hj : j < (len : Int)) (hR : iR j) (hdg : decode cc pc = .ok (.aaload, 1))
    (kn : S κ i j.toNat = -1 → W p l e R s m args below meth c H locs cells slots Q (F0 m (pc + 1) ls (.null :: rest))) (kk : ∀ k : Nat, S κ i j.toNat = (k : Int) → k < n t → W p l e R s m args below meth c H locs cells slots Q (F0 m (pc + 1) ls (.ref (am t k) :: rest))) : W p l e R s m args below meth c H locs cells slots Q (F0 m pc ls (.int (iZ j) :: .ref (am κ i) :: rest)) := by
  refine va_aldq (f := fun j => ts_R am t (S κ i j)) hexec hb (ts_K_arr hK htab) (ts_P_arr hI.1 hi htab) 0 0 rfl rfl (iZ_in h0 hj hR) hdg ?_
  rw [iZ_cl hR]
  by_cases h : S κ i j.toNat < 0
  · rw [ts_rf_n h]
    have h2 := ts_rf_ge (k := j.toNat) hI.1.2.2 hi (ts_ty_arr htab)
    dsimp only at h2
    exact kn (by omega)
  · obtain ⟨k, hk⟩ := Int.eq_ofNat_of_zero_le (Int.not_lt.mp h)
    rw [ts_rf_r (Int.not_lt.mp h), hk]
    have h2 := ts_rf_lt (k := j.toNat) hI.1.2.2 hi (ts_ty_arr htab)
    dsimp only at h2
    exact kk k hk (by rw [hk] at h2; omega)
/-- an element that is a reference known -/
theorem za_r {t k : Nat} {j : Int} {C : String} (hexec : p.tables.exec = Jvm.exec) (hb : c.code = cc) (hK : ts_K tab D cA s) (hI : ts_I tab D cA A H0 (n, am, S) H locs) (hi : i < n κ) (htab : tab κ = .inr (len, t + 2, .object C)) (h0 : 0 ≤ j) (hj : j < (len : Int)) (hR : iR j) (hdg : decode cc pc = .ok (.aaload, 1)) (hz : S κ i j.toNat = (k : Int))
    (kk : k < n t → W p l e R s m args below meth c H locs cells slots Q (F0 m (pc + 1) ls (.ref (am t k) :: rest))) : W p l e R s m args below meth c H locs cells slots Q (F0 m pc ls (.int (iZ j) :: .ref (am κ i) :: rest)) :=
  za_q hexec hb hK hI hi htab h0 hj hR hdg (fun q => by omega) (fun k' q h => by
    obtain rfl : k' = k := by omega
    exact kk h)
/-- a reference is stored -/
theorem zs_r {t k ci : Nat} {ts : List Nat} {j : Int} {r : vw_C} (hexec : p.tables.exec = Jvm.exec) (hb : c.code = cc) (hK : ts_K tab D cA s) (hI : ts_I tab D cA A H0 (n, am, S) H locs) (hi : i < n κ) (htab : tab κ = .inr (len, t + 2, .object r.1)) (hk : k < n t) (htab2 : tab t = .inl (ci, ts)) (hc : vwCl[ci]? = some r) (h0 : 0 ≤ j) (hj : j < (len : Int)) (hR : iR j) (hz : ts_bd (k : Int)) (hdg : decode cc pc = .ok (.aastore, 1))
    (kk : ∀ (H1 : Heap) (locs1 : List Loc), ts_I tab D cA A H0 (n, am, up3 S κ i j.toNat (k : Int)) H1 locs1 → W p l e R s m args below meth c H1 locs1 cells slots Q (F0 m (pc + 1) ls rest)) : W p l e R s m args below meth c H locs cells slots Q (F0 m pc ls (.ref (am t k) :: .int (iZ j) :: .ref (am κ i) :: rest)) := by
  have hlt : j.toNat < len := by omega
  have hP := ts_P_arr hI.1 hi htab 0 _ rfl
  have h1 := hI.1.1 t k hk
  dsimp only at h1
  rw [ts_E_obj htab2] at h1
  obtain ⟨r', hr', cellV, g1, g2, g3, -⟩ := h1
  have hcls := (hK.1.1 ci r hc).2
  obtain ⟨kA, comp, k1, k2, k3, -⟩ := ((ts_K_arr hK htab).2 0 _ rfl).2
  have hcomp : comp = D.1 ci := Option.some.inj (k3.symm.trans hcls.1)
  subst hcomp
  obtain ⟨kC, hkC, -⟩ := hcls.2
  have hneg : ¬ iZ j < 0 := fun q => by
    have := (iZ_lt (b := 0) hR (by decide)).mp (by rw [iZ_0]; exact q)
    omega
  refine W.aast hexec hb hP (fun q h => by cases h) (fun h => by cases h) k1 k2 rfl hkC ⟨hneg, by show _ < (arrV _ _ _).slots.size; rw [arrV_size, iZ_cl hR]; exact hlt⟩ g1 (fun q h => by rw [g3] at h; cases h) (by rw [g2]; exact hkC) (by rw [g2]; exact va_assign hcls) rfl rfl hdg fun H1 e z1 oq => ?_
  refine kk H1 _ (hI.put hi ?_ z1 oq (fun _ => hz) (fun t' q => ?_))
  · show va_at D vwCl (am κ i, ts_E tab cA am (up3 S κ i j.toNat (k : Int)) κ i) H1
    rw [ts_E_arr htab]
    show H1[am κ i]? = some (vp_cell (cA κ) (len, .inr (.inr (.inr (.inr (fun b => ts_R am t (up3 S κ i j.toNat (k : Int) κ i b)))))))
    rw [e, vp_cell_q]
    show some ((vp_cell (cA κ) (len, .inr (.inr (.inr (.inr (fun b => ts_R am t (S κ i b))))))).setSlot _ _) = _
    rw [vp_cell_q, arrV_store, iZ_cl hR]
    congr 2
    funext q
    by_cases hq : q = j.toNat
    · subst hq
      simp only [updV, up3, and_self, if_true]
      exact (ts_V_ref am t k).symm
    · simp [updV, up3, hq]
  · rw [ts_ty_arr htab] at q
    have : t = t' := by
      have := Option.some.inj q
      omega
    subst this
    show -1 ≤ (k : Int) ∧ (k : Int) < (n t : Int)
    omega
/-- a store with one thing more -/
theorem ts_P.grow {H1 : Heap} {f0 : Nat → Int} (h : ts_P tab D cA (n, am, S) H) (e1 : va_at D vwCl (H.size, ts_E tab cA (upA am κ (n κ) H.size) (up2 S κ (n κ) f0) κ (n κ)) H1) (o1 : ∀ q : Nat, q < H.size → H1[q]? = H[q]?) (hb : ∀ k, ts_bd (f0 k)) (hr : ∀ k t, ts_ty tab κ k = some (t + 2) → -1 ≤ f0 k ∧ f0 k < (n t : Int)) : ts_P tab D cA (upN n κ (n κ + 1), upA am κ (n κ) H.size, up2 S κ (n κ) f0) H1 := by
  have hN : ∀ a b : Nat, b < upN n κ (n κ + 1) a → (a = κ ∧ b = n κ) ∨ (b < n a ∧ ¬ (a = κ ∧ b = n κ)) := by
    intro a b hab
    by_cases ha : a = κ
    · subst ha
      rw [upN_s] at hab
      by_cases hbn : b = n a
      · exact Or.inl ⟨rfl, hbn⟩
      · exact Or.inr ⟨by omega, fun q => hbn q.2⟩
    · rw [upN_r ha] at hab
      exact Or.inr ⟨hab, fun q => ha q.1⟩
  have hle : ∀ t : Nat, n t ≤ upN n κ (n κ + 1) t := by
    intro t
    by_cases ht : t = κ
    · subst ht; rw [upN_s]; omega
    · rw [upN_r ht]; omega
  have hV : ∀ (t : Nat) (z : Int), (∀ t', t = t' + 2 → -1 ≤ z ∧ z < (n t' : Int)) → ts_V (upA am κ (n κ) H.size) t z = ts_V am t z := by
    intro t z hz
    match t with
    | 0 => rfl
    | 1 => rfl
    | k + 2 =>
      show va_rf (ts_R _ k z) = va_rf (ts_R am k z)
      unfold ts_R
      by_cases h0 : z < 0
      · rw [if_pos h0, if_pos h0]
      · rw [if_neg h0, if_neg h0, upA_r]
        rintro ⟨rfl, hq⟩
        have := hz k rfl
        omega
  have hE : ∀ (a b : Nat) (S' : ts_St), (∀ k t, ts_ty tab a k = some (t + 2) → -1 ≤ S' a b k ∧ S' a b k < (n t : Int)) → ts_E tab cA (upA am κ (n κ) H.size) S' a b = ts_E tab cA am S' a b := by
    intro a b S' hS'
    cases htab : tab a with
    | inl q =>
      rw [ts_E_obj (ci := q.1) (ts := q.2) htab, ts_E_obj (ci := q.1) (ts := q.2) htab]
      congr 2
      exact ts_L_congr fun k t hk => hV t _ fun t' ht => hS' k t' (by rw [ts_ty_obj (ci := q.1) (ts := q.2) htab, hk, ht])
    | inr q =>
      obtain ⟨len, t, ty⟩ := q
      rw [ts_E_arr htab, ts_E_arr htab]
      match t, htab with
      | 0, _ => rfl
      | 1, _ => rfl
      | k + 2, htab =>
        show Sum.inl (cA a, len, Sum.inr (Sum.inr (Sum.inr (Sum.inr fun j => ts_R _ k (S' a b j))))) = Sum.inl (cA a, len, Sum.inr (Sum.inr (Sum.inr (Sum.inr fun j => ts_R am k (S' a b j)))))
        have hfun : (fun j => ts_R (upA am κ (n κ) H.size) k (S' a b j)) = fun j => ts_R am k (S' a b j) := by
          funext j
          have h1 := hS' j k (ts_ty_arr htab)
          unfold ts_R
          by_cases h0 : S' a b j < 0
          · rw [if_pos h0, if_pos h0]
          · rw [if_neg h0, if_neg h0, upA_r]
            rintro ⟨rfl, hq⟩
            omega
        rw [hfun]
  have hrow : ∀ a b : Nat, b < upN n κ (n κ + 1) a → ∀ k t : Nat, ts_ty tab a k = some (t + 2) → -1 ≤ up2 S κ (n κ) f0 a b k ∧ up2 S κ (n κ) f0 a b k < (n t : Int) := by
    intro a b hab k t hk
    rcases hN a b hab with ⟨rfl, rfl⟩ | ⟨h1, h2⟩
    · rw [up2_s]
      exact hr k t hk
    · rw [up2_r h2]
      exact h.2.2.2 a b k t h1 hk
  refine ⟨fun a b hab => ?_, fun a b a' b' h1 h2 h3 => ?_, fun a b k hne => ?_, fun a b k t hab hk => ?_⟩
  · show va_at D vwCl (upA am κ (n κ) H.size a b, ts_E tab cA (upA am κ (n κ) H.size) (up2 S κ (n κ) f0) a b) H1
    rcases hN a b hab with ⟨rfl, rfl⟩ | ⟨h1, h2⟩
    · rw [upA_s]
      exact e1
    · rw [hE a b _ (hrow a b hab), upA_r h2, ts_E_row (up2_r h2)]
      have := h.1 a b h1
      exact this.kept (o1 _ this.lt)
  · have h3 : upA am κ (n κ) H.size a b = upA am κ (n κ) H.size a' b' := h3
    rcases hN a b h1 with ⟨rfl, rfl⟩ | ⟨q1, q2⟩ <;> rcases hN a' b' h2 with ⟨rfl, rfl⟩ | ⟨q3, q4⟩
    · exact ⟨rfl, rfl⟩
    · rw [upA_s, upA_r q4] at h3
      exact absurd h3 (Nat.ne_of_gt (h.1 a' b' q3).lt)
    · rw [upA_s, upA_r q2] at h3
      exact absurd h3 (Nat.ne_of_lt (h.1 a b q1).lt)
    · rw [upA_r q2, upA_r q4] at h3
      exact h.2.1 a b a' b' q1 q3 h3
  · show ts_bd (up2 S κ (n κ) f0 a b k)
    by_cases q : a = κ ∧ b = n κ
    · obtain ⟨rfl, rfl⟩ := q
      rw [up2_s]
      exact hb k
    · rw [up2_r q]
      exact h.2.2.1 a b k hne
  · have h1 := hrow a b hab k t hk
    have h2 := hle t
    show -1 ≤ up2 S κ (n κ) f0 a b k ∧ up2 S κ (n κ) f0 a b k < ((upN n κ (n κ + 1) t : Nat) : Int)
    omega
theorem ts_I.grow {H1 : Heap} {f0 : Nat → Int} (h : ts_I tab D cA A H0 (n, am, S) H locs) (e1 : va_at D vwCl (H.size, ts_E tab cA (upA am κ (n κ) H.size) (up2 S κ (n κ) f0) κ (n κ)) H1) (z1 : H1.size = H.size + 1) (o1 : ∀ q : Nat, q < H.size → H1[q]? = H[q]?) (hb : ∀ k, ts_bd (f0 k)) (hr : ∀ k t, ts_ty tab κ k = some (t + 2) → -1 ≤ f0 k ∧ f0 k < (n t : Int)) : ts_I tab D cA A H0 (upN n κ (n κ + 1), upA am κ (n κ) H.size, up2 S κ (n κ) f0) H1 locs := by
  refine ⟨h.1.grow e1 o1 hb hr, fun q hq => ?_, Nat.le_trans h.2.2.1 (by omega), fun q h1 h2 => (o1 q (Nat.lt_of_lt_of_le h1 h.2.2.1)).trans (h.2.2.2.1 q h1 h2), h.2.2.2.2⟩
  rcases hq with ⟨a, b, hab, rfl⟩ | hq
  · have hab : b < upN n κ (n κ + 1) a := hab
    show A (upA am κ (n κ) H.size a b)
    by_cases q : a = κ ∧ b = n κ
    · obtain ⟨rfl, rfl⟩ := q
      rw [upA_s]
      exact h.2.1 _ (Or.inr (Nat.le_refl _))
    · rw [upA_r q]
      refine h.2.1 _ (Or.inl ⟨a, b, ?_, rfl⟩)
      by_cases ha : a = κ
      · subst ha
        rw [upN_s] at hab
        show b < n a
        have : b ≠ n a := fun z => q ⟨rfl, z⟩
        omega
      · rw [upN_r ha] at hab
        exact hab
  · exact h.2.1 q (Or.inr (by omega))
/-- 'new' -/
theorem zn {own C : String} {T : u_T} {N ci index : Nat} {ts : List Nat} {f0 : Nat → Int} (hexec : p.tables.exec = Jvm.exec) (hb : c.code = cc) (hL : ∀ w ∈ u_ws C T N, w.before args s = true) (ty0 : Nat → FieldType) (hty : ∀ k, k < N → parseFieldDescriptor (T k).2.2.1 = some (ty0 k)) (hown : s.vm.findClass own = some m.cls) (hcl : (Cond.classLink own index C).before args s = true) (hinst : (Cond.instantiable C N).before args s = true) (hini : (Cond.initialized C).before args s = true) (hK : ts_K tab D cA s) (hI : ts_I tab D cA A H0 (n, am, S) H locs) (htab : tab κ = .inl (ci, ts)) (hc : vwCl[ci]? = some (C, T, N))
    (hfs : ∀ (am' : ts_Am) (j : Nat), j < N → defaultValue (ty0 j) = vp_V (ts_L am' f0 0 ts) j) (hf0 : ∀ k, ts_bd (f0 k)) (hr : ∀ k t, ts_ty tab κ k = some (t + 2) → -1 ≤ f0 k ∧ f0 k < (n t : Int)) (hcells : cells + 1 ≤ R.cells) (hslots : slots + N ≤ R.slots) (hdg : decode cc pc = .ok (.new index, 3))
    (kk : ∀ (am' : ts_Am) (H1 : Heap), (∀ a b : Nat, ¬ (a = κ ∧ b = n κ) → am' a b = am a b) → ts_I tab D cA A H0 (upN n κ (n κ + 1), am', up2 S κ (n κ) f0) H1 locs → W p l e R s m args below meth c H1 locs (cells + 1) (slots + N) Q (F0 m (pc + 3) ls (.ref (am' κ (n κ)) :: rest))) : W p l e R s m args below meth c H locs cells slots Q (F0 m pc ls rest) := by
  have hKn := hK.1.1 ci _ hc
  refine W.newcK hexec hb hown hcl hinst hini rfl hdg hcells hslots hKn.2.1 rfl fun H1 kC hkC e1 z1 o1 => ?_
  have key := kk (upA am κ (n κ) H.size) H1 (fun a b q => upA_r q) (hI.grow (f0 := f0) ?_ z1 o1 hf0 hr)
  · rw [upA_s] at key
    exact key
  · rw [ts_E_obj htab, up2_s]
    exact ⟨_, hc, (u_born ty0 hL (fun _ h => h) hKn hkC e1 hty).to (hfs _)⟩
theorem ts_RA_eq {U : State} {c1 c2 : ClassId} {ty : FieldType} (h1 : va_RA U c1 ty) (h2 : va_RA U c2 ty) : c1 = c2 := by
  cases ty with
  | object C =>
    obtain ⟨_, _, -, -, -, h1⟩ := h1
    obtain ⟨_, _, -, -, -, h2⟩ := h2
    exact Option.some.inj (h1.symm.trans h2)
  | _ => exact Option.some.inj (Eq.trans (Eq.symm h1) h2)
/-- 'newarray' of ints, chars, booleans -/
theorem zna {atype : ArrayType} {ty : FieldType} {z : Int} (hexec : p.tables.exec = Jvm.exec) (hb : c.code = cc) (harr : (Cond.arrayClass (newarray.typeOf atype)).before args s = true) (hty : newarray.typeOf atype = ty) (hdef : defaultValue ty = .int 0) (hK : ts_K tab D cA s) (hI : ts_I tab D cA A H0 (n, am, S) H locs) (htab : tab κ = .inr (len, 0, ty)) (hz : z = (len : Int)) (hlen : len < 1000000) (hbytes : len * componentBytes ty ≤ 536870912) (hcells : cells + 1 ≤ R.cells) (hslots : slots + len ≤ R.slots) (hdg : decode cc pc = .ok (.newarray atype, 2)) (hra : ∀ cA1, s.vm.findClass ("[" ++ ty.toString) = some cA1 → va_RA s cA1 ty)
    (kk : ∀ (am' : ts_Am) (H1 : Heap), (∀ a b : Nat, ¬ (a = κ ∧ b = n κ) → am' a b = am a b) → ts_I tab D cA A H0 (upN n κ (n κ + 1), am', up2 S κ (n κ) (fun _ => 0)) H1 locs → W p l e R s m args below meth c H1 locs (cells + 1) (slots + len) Q (F0 m (pc + 2) ls (.ref (am' κ (n κ)) :: rest))) : W p l e R s m args below meth c H locs cells slots Q (F0 m pc ls (.int (iZ z) :: rest)) := by
  subst hty
  subst hz
  have hR : iR (len : Int) := ⟨by omega, by omega⟩
  have hneg : ¬ iZ (len : Int) < 0 := fun q => by
    have := (iZ_lt (b := 0) hR (by decide)).mp (by rw [iZ_0]; exact q)
    omega
  refine va_newaK hexec hb harr rfl hdg rfl hneg (by rw [iZ_cl hR]; rfl) hbytes hcells hslots rfl fun H1 cA1 e1 z1 o1 hAr hNm => ?_
  have hcA : cA1 = cA κ := ts_RA_eq (hra cA1 hNm) (hK.2 κ _ htab).2
  subst hcA
  have key := kk (upA am κ (n κ) H.size) H1 (fun a b q => upA_r q) (hI.grow (f0 := fun _ => 0) ?_ z1 o1 (fun _ => ts_bd_0) (fun k t q => ?_))
  · rw [upA_s] at key
    exact key
  · rw [ts_E_arr htab, up2_s]
    show H1[H.size]? = some (vp_cell (cA κ) (len, .inl (fun _ => iZ 0)))
    rw [vp_cell_i, e1, hdef]
    rfl
  · rw [ts_ty_arr htab] at q
    cases q
/-- 'anewarray' -/
theorem znq {own C : String} {index t : Nat} {z : Int} (hexec : p.tables.exec = Jvm.exec) (hb : c.code = cc) (hown : s.vm.findClass own = some m.cls) (hclink : (Cond.classLink own index C).before args s = true) (hover : va_AO C s) (hK : ts_K tab D cA s) (hI : ts_I tab D cA A H0 (n, am, S) H locs) (htab : tab κ = .inr (len, t + 2, .object C)) (hz : z = (len : Int)) (hlen : len < 1000000) (hcells : cells + 1 ≤ R.cells) (hslots : slots + len ≤ R.slots) (hdg : decode cc pc = .ok (.anewarray index, 3))
    (kk : ∀ (am' : ts_Am) (H1 : Heap), (∀ a b : Nat, ¬ (a = κ ∧ b = n κ) → am' a b = am a b) → ts_I tab D cA A H0 (upN n κ (n κ + 1), am', up2 S κ (n κ) (fun _ => -1)) H1 locs → W p l e R s m args below meth c H1 locs (cells + 1) (slots + len) Q (F0 m (pc + 3) ls (.ref (am' κ (n κ)) :: rest))) : W p l e R s m args below meth c H locs cells slots Q (F0 m pc ls (.int (iZ z) :: rest)) := by
  subst hz
  have hR : iR (len : Int) := ⟨by omega, by omega⟩
  have hcl : (iZ (len : Int)).toNatClampNeg = len := by rw [iZ_cl hR]; rfl
  have hneg : ¬ iZ (len : Int) < 0 := fun q => by
    have := (iZ_lt (b := 0) hR (by decide)).mp (by rw [iZ_0]; exact q)
    omega
  refine W.anew hexec hb hown hclink (va_AO.use hover) rfl hdg rfl hneg (by rw [hcl]; omega) hcells (by rw [hcl]; exact hslots) fun cA1 kA comp f1 f2 f3 f4 => ?_
  rw [hcl]
  generalize hH1 : H.push ({ cls := cA1, slots := Array.replicate len .null, vm := .none } : Cell) = H1
  have z1 : H1.size = H.size + 1 := by rw [← hH1, Array.size_push]
  have e1 : H1[H.size]? = some (arrV cA1 len (fun _ => .null)) := by rw [← hH1, Array.getElem?_push_size, ← arrV_new]
  have o1 : ∀ q : Nat, q < H.size → H1[q]? = H[q]? := fun q hq => by rw [← hH1, Array.getElem?_push, if_neg (Nat.ne_of_lt hq)]
  have hcA : cA1 = cA κ := ts_RA_eq (ty := .object C) ⟨kA, comp, f2, f3, f4, f1⟩ (hK.2 κ _ htab).2
  subst hcA
  have key := kk (upA am κ (n κ) H.size) H1 (fun a b q => upA_r q) (hI.grow (f0 := fun _ => -1) ?_ z1 o1 (fun _ => by constructor <;> decide) (fun k t q => by omega))
  · rw [upA_s] at key
    exact key
  · rw [ts_E_arr htab, up2_s]
    show H1[H.size]? = some (vp_cell (cA κ) (len, .inr (.inr (.inr (.inr (fun _ => none))))))
    rw [vp_cell_q, e1]
    rfl
end TAR
end
section
/-! The two systems as typed stores: TX the class (0 the yard, 1 its row of lanes, 2 the lanes' array, 3 the doors' array, 4 the appointments' array, 5 lanes, 6 the lanes' arrays of trailers, 7 doors, 8 appointments), TM the model (0 the object; an array has the number of its field). -/
def TX : ts_Tab := fun κ => match κ with
  | 0 => .inl (6, [3, 5, 0, 6, 0, 0, 0, 0, 0, 0, 0, 0, 1])
  | 1 => .inl (5, [4, 0])
  | 2 => .inr (4, 7, .object RX2)
  | 3 => .inr (4, 9, .object RX1)
  | 4 => .inr (40, 10, .object RX0)
  | 5 => .inl (4, [0, 0, 0, 8, 0])
  | 6 => .inr (3, 10, .object RX0)
  | 7 => .inl (3, [0, 0])
  | 8 => .inl (2, [0, 0, 0, 0, 0, 0, 0, 7, 0, 9])
  | _ => .inl (6, [])
def TM : ts_Tab := fun κ => match κ with
  | 0 => .inl (7, [0, 3, 4, 5, 6, 0, 8, 9, 0, 11, 12, 13, 14, 15, 16, 17, 0, 0, 0, 0, 0, 0, 0, 1, 0])
  | 1 => .inr (4, 0, .int)
  | 2 => .inr (4, 0, .boolean)
  | 3 => .inr (4, 0, .int)
  | 4 => .inr (12, 0, .int)
  | 6 => .inr (4, 0, .char)
  | 7 => .inr (4, 0, .int)
  | 9 => .inr (40, 0, .int)
  | 10 => .inr (40, 0, .char)
  | 11 => .inr (40, 0, .int)
  | 12 => .inr (40, 0, .char)
  | 13 => .inr (40, 0, .int)
  | 14 => .inr (40, 0, .int)
  | 15 => .inr (40, 0, .int)
  | _ => .inl (7, [])
noncomputable def zB (P : Prop) : Int := @ite Int P (Classical.propDecidable P) 1 0
theorem zB_t {P : Prop} (h : P) : zB P = 1 := by unfold zB; rw [if_pos h]
theorem zB_f {P : Prop} (h : ¬ P) : zB P = 0 := by unfold zB; rw [if_neg h]
theorem zB_0 {P : Prop} (h : zB P = 0) : ¬ P := fun q => by rw [zB_t q] at h; cases h
theorem zB_1 {P : Prop} (h : ¬ zB P = 0) : P := Classical.byContradiction fun q => h (zB_f q)
theorem zB_R (P : Prop) : 0 ≤ zB P ∧ zB P < 2 := by
  by_cases h : P
  · rw [zB_t h]; decide
  · rw [zB_f h]; decide
theorem zB_bd (P : Prop) : ts_bd (zB P) := by have := zB_R P; constructor <;> omega
theorem zB_iR (P : Prop) : iR (zB P) := by have := zB_R P; constructor <;> omega
theorem zB_iff {P Q : Prop} (h : P ↔ Q) : zB P = zB Q := by rw [propext h]
theorem nar_int (z : Int) : narrow .int (.int (iZ z)) = .int (iZ z) := rfl
theorem fit_int (z : Int) : fits .int (.int (iZ z)) = true := rfl
section ZTB
variable {p : Program} {l : Launch} {e : Env} {R : Room} {s : State} {m : MethodId} {args : Array Value} {below : List Frame} {meth : Method} {c : Code} {H : Heap} {locs : List Loc} {cells slots : Nat} {Q : State → Prop} {cc : ByteArray} {pc : Nat} {ls : Array Slot} {rest : List Value}
variable {tab : ts_Tab} {D : va_G} {cA : Nat → ClassId} {A : Nat → Prop} {H0 : Heap} {n : Nat → Nat} {am : ts_Am} {S : ts_St} {κ i k : Nat}
theorem zp_i (hexec : p.tables.exec = Jvm.exec) (hb : c.code = cc) {own ref C : String} {T : u_T} {N ci index : Nat} {ts : List Nat} (hL : ∀ w ∈ u_ws C T N, w.before args s = true) (ty0 : Nat → FieldType) (hty : ∀ k, k < N → parseFieldDescriptor (T k).2.2.1 = some (ty0 k)) (hnm : ∀ a, a < N → ∀ b, b < N → a ≠ b → (T a).2.1 ≠ (T b).2.1) (hown : s.vm.findClass own = some m.cls) (hK : ts_K tab D cA s) (hI : ts_I tab D cA A H0 (n, am, S) H locs) (hi : i < n κ) (htab : tab κ = .inl (ci, ts)) (hc : vwCl[ci]? = some (C, T, N)) (hk : k < N) (ht : ts[k]? = some (0)) (hlink : (Cond.fieldLink own index ref (T k).2.1 (T k).2.2.1).before args s = true) (hsame : ∀ x, s.fieldFound? (T k).1 (T k).2.1 (T k).2.2.1 = some x → s.fieldFound? ref (T k).2.1 (T k).2.2.1 = some x) (hfin : (T k).2.2.2 = false) {z : Int} (hn : narrow (ty0 k) (.int (iZ z)) = .int (iZ z)) (hfit : fits (ty0 k) (.int (iZ z)) = true) (hz : ts_bd z) (hdg : decode cc pc = .ok (.putfield index, 3))
    (kk : ∀ (H1 : Heap) (locs1 : List Loc), ts_I tab D cA A H0 (n, am, up3 S κ i k z) H1 locs1 → W p l e R s m args below meth c H1 locs1 cells slots Q (F0 m (pc + 3) ls rest)) : W p l e R s m args below meth c H locs cells slots Q (F0 m pc ls (.int (iZ z) :: .ref (am κ i) :: rest)) :=
  zp (t := 0) (z := z) hexec hb hL ty0 hty hnm hown hK hI hi htab hc hk ht hlink hsame hfin hn hfit (fun _ => hz) (fun t q => by omega) hdg kk
theorem zp_l (hexec : p.tables.exec = Jvm.exec) (hb : c.code = cc) {own ref C : String} {T : u_T} {N ci index : Nat} {ts : List Nat} (hL : ∀ w ∈ u_ws C T N, w.before args s = true) (ty0 : Nat → FieldType) (hty : ∀ k, k < N → parseFieldDescriptor (T k).2.2.1 = some (ty0 k)) (hnm : ∀ a, a < N → ∀ b, b < N → a ≠ b → (T a).2.1 ≠ (T b).2.1) (hown : s.vm.findClass own = some m.cls) (hK : ts_K tab D cA s) (hI : ts_I tab D cA A H0 (n, am, S) H locs) (hi : i < n κ) (htab : tab κ = .inl (ci, ts)) (hc : vwCl[ci]? = some (C, T, N)) (hk : k < N) (ht : ts[k]? = some (1)) (hlink : (Cond.fieldLink own index ref (T k).2.1 (T k).2.2.1).before args s = true) (hsame : ∀ x, s.fieldFound? (T k).1 (T k).2.1 (T k).2.2.1 = some x → s.fieldFound? ref (T k).2.1 (T k).2.2.1 = some x) (hfin : (T k).2.2.2 = false) {z : Int} (hn : narrow (ty0 k) (.long (lZ z)) = .long (lZ z)) (hfit : fits (ty0 k) (.long (lZ z)) = true) (hdg : decode cc pc = .ok (.putfield index, 3))
    (kk : ∀ (H1 : Heap) (locs1 : List Loc), ts_I tab D cA A H0 (n, am, up3 S κ i k z) H1 locs1 → W p l e R s m args below meth c H1 locs1 cells slots Q (F0 m (pc + 3) ls rest)) : W p l e R s m args below meth c H locs cells slots Q (F0 m pc ls (.long (lZ z) :: .ref (am κ i) :: rest)) :=
  zp (t := 1) (z := z) hexec hb hL ty0 hty hnm hown hK hI hi htab hc hk ht hlink hsame hfin hn hfit (fun q => absurd rfl q) (fun t q => by omega) hdg kk
theorem zp_n (hexec : p.tables.exec = Jvm.exec) (hb : c.code = cc) {own ref C : String} {T : u_T} {N ci index t : Nat} {ts : List Nat} (hL : ∀ w ∈ u_ws C T N, w.before args s = true) (ty0 : Nat → FieldType) (hty : ∀ k, k < N → parseFieldDescriptor (T k).2.2.1 = some (ty0 k)) (hnm : ∀ a, a < N → ∀ b, b < N → a ≠ b → (T a).2.1 ≠ (T b).2.1) (hown : s.vm.findClass own = some m.cls) (hK : ts_K tab D cA s) (hI : ts_I tab D cA A H0 (n, am, S) H locs) (hi : i < n κ) (htab : tab κ = .inl (ci, ts)) (hc : vwCl[ci]? = some (C, T, N)) (hk : k < N) (ht : ts[k]? = some (t + 2)) (hlink : (Cond.fieldLink own index ref (T k).2.1 (T k).2.2.1).before args s = true) (hsame : ∀ x, s.fieldFound? (T k).1 (T k).2.1 (T k).2.2.1 = some x → s.fieldFound? ref (T k).2.1 (T k).2.2.1 = some x) (hfin : (T k).2.2.2 = false) (hn : narrow (ty0 k) .null = .null) (hfit : fits (ty0 k) .null = true) (hdg : decode cc pc = .ok (.putfield index, 3))
    (kk : ∀ (H1 : Heap) (locs1 : List Loc), ts_I tab D cA A H0 (n, am, up3 S κ i k (-1)) H1 locs1 → W p l e R s m args below meth c H1 locs1 cells slots Q (F0 m (pc + 3) ls rest)) : W p l e R s m args below meth c H locs cells slots Q (F0 m pc ls (.null :: .ref (am κ i) :: rest)) := by
  rw [← ts_V_null am t (show (-1 : Int) < 0 by decide)] at hn hfit ⊢
  exact zp (t := t + 2) (z := -1) hexec hb hL ty0 hty hnm hown hK hI hi htab hc hk ht hlink hsame hfin hn hfit (fun _ => ⟨by decide, by decide⟩) (fun t q => by omega) hdg kk
theorem zp_r (hexec : p.tables.exec = Jvm.exec) (hb : c.code = cc) {own ref C : String} {T : u_T} {N ci index t j : Nat} {ts : List Nat} (hL : ∀ w ∈ u_ws C T N, w.before args s = true) (ty0 : Nat → FieldType) (hty : ∀ k, k < N → parseFieldDescriptor (T k).2.2.1 = some (ty0 k)) (hnm : ∀ a, a < N → ∀ b, b < N → a ≠ b → (T a).2.1 ≠ (T b).2.1) (hown : s.vm.findClass own = some m.cls) (hK : ts_K tab D cA s) (hI : ts_I tab D cA A H0 (n, am, S) H locs) (hi : i < n κ) (htab : tab κ = .inl (ci, ts)) (hc : vwCl[ci]? = some (C, T, N)) (hk : k < N) (ht : ts[k]? = some (t + 2)) (hlink : (Cond.fieldLink own index ref (T k).2.1 (T k).2.2.1).before args s = true) (hsame : ∀ x, s.fieldFound? (T k).1 (T k).2.1 (T k).2.2.1 = some x → s.fieldFound? ref (T k).2.1 (T k).2.2.1 = some x) (hfin : (T k).2.2.2 = false) (hn : narrow (ty0 k) (.ref (am t j)) = .ref (am t j)) (hfit : fits (ty0 k) (.ref (am t j)) = true) (hj : j < n t) (hz : ts_bd (j : Int)) (hdg : decode cc pc = .ok (.putfield index, 3))
    (kk : ∀ (H1 : Heap) (locs1 : List Loc), ts_I tab D cA A H0 (n, am, up3 S κ i k (j : Int)) H1 locs1 → W p l e R s m args below meth c H1 locs1 cells slots Q (F0 m (pc + 3) ls rest)) : W p l e R s m args below meth c H locs cells slots Q (F0 m pc ls (.ref (am t j) :: .ref (am κ i) :: rest)) := by
  rw [← ts_V_ref am t j] at hn hfit ⊢
  exact zp (t := t + 2) (z := (j : Int)) hexec hb hL ty0 hty hnm hown hK hI hi htab hc hk ht hlink hsame hfin hn hfit (fun _ => hz) (fun t9 q => by obtain rfl : t = t9 := Nat.add_right_cancel q; omega) hdg kk
theorem zpF_i (hexec : p.tables.exec = Jvm.exec) (hb : c.code = cc) {own ref C : String} {T : u_T} {N ci index : Nat} {ts : List Nat} (hL : ∀ w ∈ u_ws C T N, w.before args s = true) (ty0 : Nat → FieldType) (hty : ∀ k, k < N → parseFieldDescriptor (T k).2.2.1 = some (ty0 k)) (hnm : ∀ a, a < N → ∀ b, b < N → a ≠ b → (T a).2.1 ≠ (T b).2.1) (hown : s.vm.findClass own = some m.cls) (hK : ts_K tab D cA s) (hI : ts_I tab D cA A H0 (n, am, S) H locs) (hi : i < n κ) (htab : tab κ = .inl (ci, ts)) (hc : vwCl[ci]? = some (C, T, N)) (hk : k < N) (ht : ts[k]? = some (0)) (hlink : (Cond.fieldLink own index ref (T k).2.1 (T k).2.2.1).before args s = true) (hsame : ∀ x, s.fieldFound? (T k).1 (T k).2.1 (T k).2.2.1 = some x → s.fieldFound? ref (T k).2.1 (T k).2.2.1 = some x) (hfin : (T k).2.2.2 = true) (hin2 : meth.name = "<init>") (hdecl : (T k).1 = own) {z : Int} (hn : narrow (ty0 k) (.int (iZ z)) = .int (iZ z)) (hfit : fits (ty0 k) (.int (iZ z)) = true) (hz : ts_bd z) (hdg : decode cc pc = .ok (.putfield index, 3))
    (kk : ∀ (H1 : Heap) (locs1 : List Loc), ts_I tab D cA A H0 (n, am, up3 S κ i k z) H1 locs1 → W p l e R s m args below meth c H1 locs1 cells slots Q (F0 m (pc + 3) ls rest)) : W p l e R s m args below meth c H locs cells slots Q (F0 m pc ls (.int (iZ z) :: .ref (am κ i) :: rest)) :=
  zpF (t := 0) (z := z) hexec hb hL ty0 hty hnm hown hK hI hi htab hc hk ht hlink hsame hfin hin2 hdecl hn hfit (fun _ => hz) (fun t q => by omega) hdg kk
theorem zpF_l (hexec : p.tables.exec = Jvm.exec) (hb : c.code = cc) {own ref C : String} {T : u_T} {N ci index : Nat} {ts : List Nat} (hL : ∀ w ∈ u_ws C T N, w.before args s = true) (ty0 : Nat → FieldType) (hty : ∀ k, k < N → parseFieldDescriptor (T k).2.2.1 = some (ty0 k)) (hnm : ∀ a, a < N → ∀ b, b < N → a ≠ b → (T a).2.1 ≠ (T b).2.1) (hown : s.vm.findClass own = some m.cls) (hK : ts_K tab D cA s) (hI : ts_I tab D cA A H0 (n, am, S) H locs) (hi : i < n κ) (htab : tab κ = .inl (ci, ts)) (hc : vwCl[ci]? = some (C, T, N)) (hk : k < N) (ht : ts[k]? = some (1)) (hlink : (Cond.fieldLink own index ref (T k).2.1 (T k).2.2.1).before args s = true) (hsame : ∀ x, s.fieldFound? (T k).1 (T k).2.1 (T k).2.2.1 = some x → s.fieldFound? ref (T k).2.1 (T k).2.2.1 = some x) (hfin : (T k).2.2.2 = true) (hin2 : meth.name = "<init>") (hdecl : (T k).1 = own) {z : Int} (hn : narrow (ty0 k) (.long (lZ z)) = .long (lZ z)) (hfit : fits (ty0 k) (.long (lZ z)) = true) (hdg : decode cc pc = .ok (.putfield index, 3))
    (kk : ∀ (H1 : Heap) (locs1 : List Loc), ts_I tab D cA A H0 (n, am, up3 S κ i k z) H1 locs1 → W p l e R s m args below meth c H1 locs1 cells slots Q (F0 m (pc + 3) ls rest)) : W p l e R s m args below meth c H locs cells slots Q (F0 m pc ls (.long (lZ z) :: .ref (am κ i) :: rest)) :=
  zpF (t := 1) (z := z) hexec hb hL ty0 hty hnm hown hK hI hi htab hc hk ht hlink hsame hfin hin2 hdecl hn hfit (fun q => absurd rfl q) (fun t q => by omega) hdg kk
theorem zpF_n (hexec : p.tables.exec = Jvm.exec) (hb : c.code = cc) {own ref C : String} {T : u_T} {N ci index t : Nat} {ts : List Nat} (hL : ∀ w ∈ u_ws C T N, w.before args s = true) (ty0 : Nat → FieldType) (hty : ∀ k, k < N → parseFieldDescriptor (T k).2.2.1 = some (ty0 k)) (hnm : ∀ a, a < N → ∀ b, b < N → a ≠ b → (T a).2.1 ≠ (T b).2.1) (hown : s.vm.findClass own = some m.cls) (hK : ts_K tab D cA s) (hI : ts_I tab D cA A H0 (n, am, S) H locs) (hi : i < n κ) (htab : tab κ = .inl (ci, ts)) (hc : vwCl[ci]? = some (C, T, N)) (hk : k < N) (ht : ts[k]? = some (t + 2)) (hlink : (Cond.fieldLink own index ref (T k).2.1 (T k).2.2.1).before args s = true) (hsame : ∀ x, s.fieldFound? (T k).1 (T k).2.1 (T k).2.2.1 = some x → s.fieldFound? ref (T k).2.1 (T k).2.2.1 = some x) (hfin : (T k).2.2.2 = true) (hin2 : meth.name = "<init>") (hdecl : (T k).1 = own) (hn : narrow (ty0 k) .null = .null) (hfit : fits (ty0 k) .null = true) (hdg : decode cc pc = .ok (.putfield index, 3))
    (kk : ∀ (H1 : Heap) (locs1 : List Loc), ts_I tab D cA A H0 (n, am, up3 S κ i k (-1)) H1 locs1 → W p l e R s m args below meth c H1 locs1 cells slots Q (F0 m (pc + 3) ls rest)) : W p l e R s m args below meth c H locs cells slots Q (F0 m pc ls (.null :: .ref (am κ i) :: rest)) := by
  rw [← ts_V_null am t (show (-1 : Int) < 0 by decide)] at hn hfit ⊢
  exact zpF (t := t + 2) (z := -1) hexec hb hL ty0 hty hnm hown hK hI hi htab hc hk ht hlink hsame hfin hin2 hdecl hn hfit (fun _ => ⟨by decide, by decide⟩) (fun t q => by omega) hdg kk
theorem zpF_r (hexec : p.tables.exec = Jvm.exec) (hb : c.code = cc) {own ref C : String} {T : u_T} {N ci index t j : Nat} {ts : List Nat} (hL : ∀ w ∈ u_ws C T N, w.before args s = true) (ty0 : Nat → FieldType) (hty : ∀ k, k < N → parseFieldDescriptor (T k).2.2.1 = some (ty0 k)) (hnm : ∀ a, a < N → ∀ b, b < N → a ≠ b → (T a).2.1 ≠ (T b).2.1) (hown : s.vm.findClass own = some m.cls) (hK : ts_K tab D cA s) (hI : ts_I tab D cA A H0 (n, am, S) H locs) (hi : i < n κ) (htab : tab κ = .inl (ci, ts)) (hc : vwCl[ci]? = some (C, T, N)) (hk : k < N) (ht : ts[k]? = some (t + 2)) (hlink : (Cond.fieldLink own index ref (T k).2.1 (T k).2.2.1).before args s = true) (hsame : ∀ x, s.fieldFound? (T k).1 (T k).2.1 (T k).2.2.1 = some x → s.fieldFound? ref (T k).2.1 (T k).2.2.1 = some x) (hfin : (T k).2.2.2 = true) (hin2 : meth.name = "<init>") (hdecl : (T k).1 = own) (hn : narrow (ty0 k) (.ref (am t j)) = .ref (am t j)) (hfit : fits (ty0 k) (.ref (am t j)) = true) (hj : j < n t) (hz : ts_bd (j : Int)) (hdg : decode cc pc = .ok (.putfield index, 3))
    (kk : ∀ (H1 : Heap) (locs1 : List Loc), ts_I tab D cA A H0 (n, am, up3 S κ i k (j : Int)) H1 locs1 → W p l e R s m args below meth c H1 locs1 cells slots Q (F0 m (pc + 3) ls rest)) : W p l e R s m args below meth c H locs cells slots Q (F0 m pc ls (.ref (am t j) :: .ref (am κ i) :: rest)) := by
  rw [← ts_V_ref am t j] at hn hfit ⊢
  exact zpF (t := t + 2) (z := (j : Int)) hexec hb hL ty0 hty hnm hown hK hI hi htab hc hk ht hlink hsame hfin hin2 hdecl hn hfit (fun _ => hz) (fun t9 q => by obtain rfl : t = t9 := Nat.add_right_cancel q; omega) hdg kk
theorem z_max (hexec : p.tables.exec = Jvm.exec) (hb : c.code = cc) (hml : c.maxLocals = ls.size) {own : String} {index : Nat} (hown : s.vm.findClass own = some m.cls) (hlink : (Cond.methodLink own index Lib.Math.max.name).before args s = true) (hstat : (Cond.static Lib.Math.max.name).before args s = true) (hini : (Cond.initialized "java/lang/Math").before args s = true) (hcode : (Cond.code Lib.Math.max.name Lib.Math.max.code 2 (some .int)).before args s = true)
    (hframes : 1 ≤ R.frames) (hlocals : (rest.map fun v => v.category).sum + 13 ≤ R.locals) (hc : cells ≤ R.cells) (hs : slots ≤ R.slots) {a b : Int} (ha : iR a) (hb2 : iR b) (hdg : decode cc pc = .ok (.invokestatic index, 3))
    (kk : W p l e R s m args below meth c H locs cells slots Q (F0 m (pc + 3) ls (.int (iZ (max a b)) :: rest))) : W p l e R s m args below meth c H locs cells slots Q (F0 m pc ls (.int (iZ b) :: .int (iZ a) :: rest)) := by
  refine va_mmax hexec hb hml hown hlink hstat hini hcode hframes hlocals hc hs hdg ?_
  exact by
    by_cases h : a < b
    · rw [if_pos ((iZ_lt ha hb2).mpr h)]; rw [show max a b = b by omega] at kk; exact kk
    · rw [if_neg (fun q => h ((iZ_lt ha hb2).mp q))]; rw [show max a b = a by omega] at kk; exact kk
theorem z_min (hexec : p.tables.exec = Jvm.exec) (hb : c.code = cc) (hml : c.maxLocals = ls.size) {own : String} {index : Nat} (hown : s.vm.findClass own = some m.cls) (hlink : (Cond.methodLink own index Lib.Math.min.name).before args s = true) (hstat : (Cond.static Lib.Math.min.name).before args s = true) (hini : (Cond.initialized "java/lang/Math").before args s = true) (hcode : (Cond.code Lib.Math.min.name Lib.Math.min.code 2 (some .int)).before args s = true)
    (hframes : 1 ≤ R.frames) (hlocals : (rest.map fun v => v.category).sum + 13 ≤ R.locals) (hc : cells ≤ R.cells) (hs : slots ≤ R.slots) {a b : Int} (ha : iR a) (hb2 : iR b) (hdg : decode cc pc = .ok (.invokestatic index, 3))
    (kk : W p l e R s m args below meth c H locs cells slots Q (F0 m (pc + 3) ls (.int (iZ (min a b)) :: rest))) : W p l e R s m args below meth c H locs cells slots Q (F0 m pc ls (.int (iZ b) :: .int (iZ a) :: rest)) := by
  refine va_mmin hexec hb hml hown hlink hstat hini hcode hframes hlocals hc hs hdg ?_
  exact by
    by_cases h : b < a
    · rw [if_pos ((iZ_lt hb2 ha).mpr h)]; rw [show min a b = b by omega] at kk; exact kk
    · rw [if_neg (fun q => h ((iZ_lt hb2 ha).mp q))]; rw [show min a b = a by omega] at kk; exact kk
end ZTB
end
section
/-! The class's leaves: what each answers, and what it writes. -/
def cSp (κ k : Nat) : Bool := (κ == 0 && (k == 0 || k == 1 || k == 2 || k == 3 || k == 4)) || κ == 1 || κ == 2 || κ == 3 || κ == 4 || (κ == 5 && (k == 0 || k == 3)) || (κ == 8 && k == 0)
/-- what stands wherever no lane, door or appointment is being made: the yard's parts, a lane's own array, the rows' contents, the numbers -/
def cW (n : Nat → Nat) (S : ts_St) : Prop := (0 < n 0 ∧ 0 < n 1 ∧ 0 < n 2 ∧ 0 < n 3 ∧ 0 < n 4) ∧ (S 0 0 0 = ((0 : Nat) : Int) ∧ S 0 0 1 = ((0 : Nat) : Int) ∧ S 0 0 3 = ((0 : Nat) : Int) ∧ S 1 0 0 = ((0 : Nat) : Int)) ∧ (∀ i, i < n 5 → i < n 6 ∧ S 5 i 3 = (i : Int)) ∧ (∀ κ, n κ ≤ 1000)
  ∧ (S 0 0 2 = (n 7 : Int) ∧ S 0 0 4 = (n 8 : Int) ∧ S 1 0 1 = (n 5 : Int)) ∧ (∀ k, k < n 5 → S 2 0 k = (k : Int) ∧ S 5 k 0 = (k : Int)) ∧ (∀ k, k < n 7 → S 3 0 k = (k : Int)) ∧ (∀ k, k < n 8 → S 4 0 k = (k : Int) ∧ S 8 k 0 = (k : Int)) ∧ n 5 ≤ 4 ∧ n 7 ≤ 4 ∧ n 8 ≤ 40
theorem cW.cn {n : Nat → Nat} {S : ts_St} (h : cW n S) : S 0 0 2 = (n 7 : Int) ∧ S 0 0 4 = (n 8 : Int) ∧ S 1 0 1 = (n 5 : Int) := h.2.2.2.2.1
theorem cW.la {n : Nat → Nat} {S : ts_St} (h : cW n S) {k : Nat} (hk : k < n 5) : S 2 0 k = (k : Int) := (h.2.2.2.2.2.1 k hk).1
theorem cW.ln {n : Nat → Nat} {S : ts_St} (h : cW n S) {k : Nat} (hk : k < n 5) : S 5 k 0 = (k : Int) := (h.2.2.2.2.2.1 k hk).2
theorem cW.da {n : Nat → Nat} {S : ts_St} (h : cW n S) {k : Nat} (hk : k < n 7) : S 3 0 k = (k : Int) := h.2.2.2.2.2.2.1 k hk
theorem cW.aa {n : Nat → Nat} {S : ts_St} (h : cW n S) {k : Nat} (hk : k < n 8) : S 4 0 k = (k : Int) := (h.2.2.2.2.2.2.2.1 k hk).1
theorem cW.an {n : Nat → Nat} {S : ts_St} (h : cW n S) {k : Nat} (hk : k < n 8) : S 8 k 0 = (k : Int) := (h.2.2.2.2.2.2.2.1 k hk).2
theorem cW.lim {n : Nat → Nat} {S : ts_St} (h : cW n S) : n 5 ≤ 4 ∧ n 7 ≤ 4 ∧ n 8 ≤ 40 := h.2.2.2.2.2.2.2.2
theorem cW.put {n : Nat → Nat} {S : ts_St} {κ i k : Nat} {v : Int} (h : cW n S) (hk : cSp κ k = false) : cW n (up3 S κ i k v) := by
  have hne : ∀ a b c : Nat, cSp a c = true → up3 S κ i k v a b c = S a b c := fun a b c hac => up3_n (fun q => by
    obtain ⟨rfl, -, rfl⟩ := q
    rw [hk] at hac
    cases hac)
  refine ⟨h.1, ⟨?_, ?_, ?_, ?_⟩, fun j hj => ⟨(h.2.2.1 j hj).1, ?_⟩, h.2.2.2.1, ⟨?_, ?_, ?_⟩, fun j hj => ⟨?_, ?_⟩, fun j hj => ?_, fun j hj => ⟨?_, ?_⟩, h.lim⟩
  · rw [hne 0 0 0 rfl]; exact h.2.1.1
  · rw [hne 0 0 1 rfl]; exact h.2.1.2.1
  · rw [hne 0 0 3 rfl]; exact h.2.1.2.2.1
  · rw [hne 1 0 0 rfl]; exact h.2.1.2.2.2
  · rw [hne 5 j 3 rfl]; exact (h.2.2.1 j hj).2
  · rw [hne 0 0 2 rfl]; exact h.cn.1
  · rw [hne 0 0 4 rfl]; exact h.cn.2.1
  · rw [hne 1 0 1 rfl]; exact h.cn.2.2
  · rw [hne 2 0 j rfl]; exact h.la hj
  · rw [hne 5 j 0 rfl]; exact h.ln hj
  · rw [hne 3 0 j rfl]; exact h.da hj
  · rw [hne 4 0 j rfl]; exact h.aa hj
  · rw [hne 8 j 0 rfl]; exact h.an hj
def yTake (S : ts_St) (i j : Nat) : Prop := S 5 i 4 < S 5 i 1 ∧ (¬ S 5 i 2 = 0 ∨ ¬ S 8 j 2 = 99)
def yServe (S : ts_St) (d j : Nat) : Prop := S 7 d 1 = 0 ∧ (S 7 d 0 = 98 ∨ S 7 d 0 = S 8 j 2)
def yCame (S : ts_St) (j : Nat) : Prop := ¬ S 8 j 4 = 98 ∧ ¬ S 8 j 4 = 110
def yBefore (S : ts_St) (i j : Nat) : Int := S 5 i 4 - 1 - S 8 j 8
def yExit (S : ts_St) (i : Nat) (x : Int) : Int := if 0 ≤ x ∧ x < S 5 i 4 ∧ S 5 i 4 ≤ 3 then S 6 i (S 5 i 4 - 1 - x).toNat else -1
theorem yExit_t {S : ts_St} {i : Nat} {x : Int} (h : 0 ≤ x ∧ x < S 5 i 4 ∧ S 5 i 4 ≤ 3) : yExit S i x = S 6 i (S 5 i 4 - 1 - x).toNat := if_pos h
theorem yExit_f {S : ts_St} {i : Nat} {x : Int} (h : ¬ (0 ≤ x ∧ x < S 5 i 4 ∧ S 5 i 4 ≤ 3)) : yExit S i x = -1 := if_neg h
theorem yExit_in {S : ts_St} {i : Nat} {x : Int} (h : 0 ≤ yExit S i x) : 0 ≤ x ∧ x < S 5 i 4 ∧ S 5 i 4 ≤ 3 := by
  by_cases q : 0 ≤ x ∧ x < S 5 i 4 ∧ S 5 i 4 ≤ 3
  · exact q
  · rw [yExit_f q] at h
    omega
def yIn (S : ts_St) (i j : Nat) : ts_St := up3 (up3 (up3 (up3 S 6 i (S 5 i 4).toNat (j : Int)) 8 j 7 (i : Int)) 8 j 8 (S 5 i 4)) 5 i 4 (S 5 i 4 + 1)
def yLane (S : ts_St) (x : Int) : Int := if 0 ≤ x ∧ x < S 1 0 1 ∧ x < 4 then S 2 0 x.toNat else -1
theorem yLane_t {S : ts_St} {x : Int} (h : 0 ≤ x ∧ x < S 1 0 1 ∧ x < 4) : yLane S x = S 2 0 x.toNat := if_pos h
theorem yLane_f {S : ts_St} {x : Int} (h : ¬ (0 ≤ x ∧ x < S 1 0 1 ∧ x < 4)) : yLane S x = -1 := if_neg h
def yTakeOut (S : ts_St) (i : Nat) : ts_St := if 0 ≤ yExit S i 0 then up3 (up3 S 5 i 4 (S 5 i 4 - 1)) 8 (yExit S i 0).toNat 7 (-1) else S
theorem yTakeOut_t {S : ts_St} {i : Nat} (h : 0 ≤ yExit S i 0) : yTakeOut S i = up3 (up3 S 5 i 4 (S 5 i 4 - 1)) 8 (yExit S i 0).toNat 7 (-1) := if_pos h
theorem yTakeOut_f {S : ts_St} {i : Nat} (h : ¬ 0 ≤ yExit S i 0) : yTakeOut S i = S := if_neg h
def yBring (S : ts_St) (i j : Nat) : ts_St := if 0 ≤ S 5 i 4 ∧ S 5 i 4 < 3 then yIn S i j else S
theorem yBring_t {S : ts_St} {i j : Nat} (h : 0 ≤ S 5 i 4 ∧ S 5 i 4 < 3) : yBring S i j = yIn S i j := if_pos h
theorem yBring_f {S : ts_St} {i j : Nat} (h : ¬ (0 ≤ S 5 i 4 ∧ S 5 i 4 < 3)) : yBring S i j = S := if_neg h
def ySum (S : ts_St) : Nat → Int
  | 0 => 0
  | k + 1 => ySum S k + (if 0 ≤ yLane S (k : Int) then S 5 (yLane S (k : Int)).toNat 4 else 0)
theorem ySum_s {S : ts_St} {y : Int} (h : 0 ≤ y) : ySum S (y + 1).toNat = ySum S y.toNat + (if 0 ≤ yLane S y then S 5 (yLane S y).toNat 4 else 0) := by
  obtain ⟨k, rfl⟩ := Int.eq_ofNat_of_zero_le h
  rfl
theorem yTakeOut_W {n : Nat → Nat} {S : ts_St} {i : Nat} (h : cW n S) : cW n (yTakeOut S i) := by
  unfold yTakeOut
  split
  · exact (h.put rfl).put rfl
  · exact h
theorem yBring_W {n : Nat → Nat} {S : ts_St} {i j : Nat} (h : cW n S) : cW n (yBring S i j) := by
  unfold yBring
  split
  · exact (((h.put rfl).put rfl).put rfl).put rfl
  · exact h
def yAllow (S : ts_St) (a b : Int) : Prop := ¬ a = b ∧ 0 ≤ yLane S a ∧ 0 ≤ yLane S b ∧ 0 ≤ yExit S (yLane S a).toNat 0 ∧ yTake S (yLane S b).toNat (yExit S (yLane S a).toNat 0).toNat
def yMove (S : ts_St) (a b : Int) : ts_St := if 0 ≤ yLane S a ∧ 0 ≤ yLane S b ∧ 0 ≤ yExit S (yLane S a).toNat 0 then yBring (yTakeOut S (yLane S a).toNat) (yLane S b).toNat (yExit S (yLane S a).toNat 0).toNat else S
theorem yMove_t {S : ts_St} {a b : Int} (h : 0 ≤ yLane S a ∧ 0 ≤ yLane S b ∧ 0 ≤ yExit S (yLane S a).toNat 0) : yMove S a b = yBring (yTakeOut S (yLane S a).toNat) (yLane S b).toNat (yExit S (yLane S a).toNat 0).toNat := if_pos h
theorem yMove_f {S : ts_St} {a b : Int} (h : ¬ (0 ≤ yLane S a ∧ 0 ≤ yLane S b ∧ 0 ≤ yExit S (yLane S a).toNat 0)) : yMove S a b = S := if_neg h
theorem yMove_W {n : Nat → Nat} {S : ts_St} {a b : Int} (h : cW n S) : cW n (yMove S a b) := by
  unfold yMove
  split
  · exact yBring_W (yTakeOut_W h)
  · exact h
theorem yAllow_t {S : ts_St} {a b : Int} {i k j : Nat} (h : ¬ a = b) (e1 : (i : Int) = yLane S a) (e2 : (k : Int) = yLane S b) (e3 : (j : Int) = yExit S i 0) (h4 : yTake S k j) : yAllow S a b := by
  unfold yAllow
  rw [← e1, ← e2, Int.toNat_natCast, Int.toNat_natCast, ← e3, Int.toNat_natCast]
  exact ⟨h, by omega, by omega, by omega, h4⟩
theorem yAllow_f4 {S : ts_St} {a b : Int} {i k j : Nat} (e1 : (i : Int) = yLane S a) (e2 : (k : Int) = yLane S b) (e3 : (j : Int) = yExit S i 0) (h4 : ¬ yTake S k j) : ¬ yAllow S a b := by
  unfold yAllow
  rw [← e1, ← e2, Int.toNat_natCast, Int.toNat_natCast, ← e3, Int.toNat_natCast]
  exact fun q => h4 q.2.2.2.2
theorem yAllow_f3 {S : ts_St} {a b : Int} {i : Nat} (e1 : (i : Int) = yLane S a) (e3 : -1 = yExit S i 0) : ¬ yAllow S a b := by
  unfold yAllow
  rw [← e1, Int.toNat_natCast, ← e3]
  exact fun q => absurd q.2.2.2.1 (by decide)
theorem yMove_3 {S : ts_St} {a b : Int} {i k j : Nat} (e1 : (i : Int) = yLane S a) (e2 : (k : Int) = yLane S b) (e3 : (j : Int) = yExit S i 0) : yMove S a b = yBring (yTakeOut S i) k j := by
  rw [yMove_t (by rw [← e1, Int.toNat_natCast, ← e3]; omega), ← e1, ← e2, Int.toNat_natCast, Int.toNat_natCast, ← e3, Int.toNat_natCast]
theorem yMove_n {S : ts_St} {a b : Int} {i : Nat} (e1 : (i : Int) = yLane S a) (e3 : -1 = yExit S i 0) : yMove S a b = yTakeOut S i := by
  rw [yMove_f (by rw [← e1, Int.toNat_natCast, ← e3]; omega), yTakeOut_f (by omega)]
/-- the row of lanes, and how many trailers stand in each, in range -/
def cOk (n : Nat → Nat) (S : ts_St) : Prop := (0 ≤ S 1 0 1 ∧ S 1 0 1 ≤ 4) ∧ ∀ i, i < n 5 → 0 ≤ S 5 i 4 ∧ S 5 i 4 ≤ 3
theorem yLane_W {n : Nat → Nat} {S : ts_St} (h : cW n S) {x : Int} (h0 : 0 ≤ x) (h1 : x < (n 5 : Int)) : yLane S x = x := by
  have h2 := h.cn
  have h3 := h.lim
  rw [yLane_t (by omega), h.la (by omega)]
  omega
theorem yLane_N {n : Nat → Nat} {S : ts_St} (h : cW n S) {x : Int} (h1 : ¬ (0 ≤ x ∧ x < (n 5 : Int))) : yLane S x = -1 := by
  have h2 := h.cn
  exact yLane_f (by omega)
theorem yLane_in {n : Nat → Nat} {S : ts_St} (h : cW n S) {x : Int} (h1 : 0 ≤ yLane S x) : 0 ≤ x ∧ x < (n 5 : Int) ∧ yLane S x = x := by
  by_cases q : 0 ≤ x ∧ x < (n 5 : Int)
  · exact ⟨q.1, q.2, yLane_W h q.1 q.2⟩
  · rw [yLane_N h q] at h1
    omega
def yOut (a b c : Int) : Prop := a < b ∨ c < a

set_option maxHeartbeats 4000000 in
set_option maxRecDepth 100000 in
theorem c_X0_hasArrived (l : Launch) (D : va_G) (cA : Nat → ClassId) (n : Nat → Nat) (am : ts_Am) (S : ts_St) (sz : Nat) (j : Nat) (hj : j < n 8) : Met l yX0_hasArrived wsX0_hasArrived ({ frames := 0, cells := 0, slots := 0, locals := 0 } : Room) (va_Pc [.ref (am 8 j)] (zP TX D cA (n, am, S) sz)) (zQi TX D cA (n, am, S) sz (fun z u => z = zB (yCame S j) ∧ u = (n, am, S))) 0 0 (ts_A (n, am, S) sz) := by
  refine zM_of (by decide) rfl (Nat.le_of_ble_eq_true rfl) ?_
  intro p e s m below meth c hx hb hr hts hown hlocks hml hname hK hsz H locs hI ls hl
  subst hsz
  have hown : s.vm.findClass RX0 = some m.cls := hown
  have hl : lv_has ls 1 [(0, .ref (am 8 j))] := hl
  have f25 := hts (.fieldLink RX0 25 "DockyardSlots$Appointment" "state" "C") (by decide +kernel)
  have LX0 : ∀ w ∈ wsX00, w.before [.ref (am 8 j)].toArray s = true := fun w h => hts w (List.mem_cons_of_mem _ (List.mem_append_right _ h))
  refine lv_aload_n hx hb dX0_hasArrived_0 rfl (lv_at hl 0 rfl) ?_
  refine zg_i (κ := 8) (i := j) (k := 4) hx hb LX0 hown hK hI hj rfl rfl (by decide) rfl f25 (fun _ h9 => h9) dX0_hasArrived_1 rfl (fun b1 => ?_)
  refine z_bipush hx hb dX0_hasArrived_4 (by decide) ?_
  refine z_icmp_eq (tgt := 22) hx hb dX0_hasArrived_6 (by decide) (by omega) (by omega) (fun c2 => ?_) (fun c2 => ?_)
  · skip
    refine z_iconst hx hb dX0_hasArrived_22 ?_
    exact (ze_i (u' := (n, am, S)) (z := 0) hx hb hr (iZ_narz (by omega) (by omega)).1 hI (by omega) ⟨(zB_f (by unfold yCame; omega)).symm, rfl⟩ (Nat.le_of_ble_eq_true rfl) (Nat.le_of_ble_eq_true rfl) dX0_hasArrived_23 hlocks)
  · skip
    refine lv_aload_n hx hb dX0_hasArrived_9 rfl (lv_at hl 0 rfl) ?_
    refine zg_i (κ := 8) (i := j) (k := 4) hx hb LX0 hown hK hI hj rfl rfl (by decide) rfl f25 (fun _ h9 => h9) dX0_hasArrived_10 rfl (fun b3 => ?_)
    refine z_bipush hx hb dX0_hasArrived_13 (by decide) ?_
    refine z_icmp_eq (tgt := 22) hx hb dX0_hasArrived_15 (by decide) (by omega) (by omega) (fun c4 => ?_) (fun c4 => ?_)
    · skip
      refine z_iconst hx hb dX0_hasArrived_22 ?_
      exact (ze_i (u' := (n, am, S)) (z := 0) hx hb hr (iZ_narz (by omega) (by omega)).1 hI (by omega) ⟨(zB_f (by unfold yCame; omega)).symm, rfl⟩ (Nat.le_of_ble_eq_true rfl) (Nat.le_of_ble_eq_true rfl) dX0_hasArrived_23 hlocks)
    · skip
      refine z_iconst hx hb dX0_hasArrived_18 ?_
      refine lv_goto (tgt := 23) hx hb dX0_hasArrived_19 (by decide) ?_
      exact (ze_i (u' := (n, am, S)) (z := 1) hx hb hr (iZ_narz (by omega) (by omega)).1 hI (by omega) ⟨(zB_t (by unfold yCame; omega)).symm, rfl⟩ (Nat.le_of_ble_eq_true rfl) (Nat.le_of_ble_eq_true rfl) dX0_hasArrived_23 hlocks)
set_option maxHeartbeats 4000000 in
set_option maxRecDepth 100000 in
theorem c_X0_doneAt (l : Launch) (D : va_G) (cA : Nat → ClassId) (n : Nat → Nat) (am : ts_Am) (S : ts_St) (sz : Nat) (j : Nat) (hj : j < n 8) : Met l yX0_doneAt wsX0_doneAt ({ frames := 0, cells := 0, slots := 0, locals := 0 } : Room) (va_Pc [.ref (am 8 j)] (zP TX D cA (n, am, S) sz)) (zQi TX D cA (n, am, S) sz (fun z u => z = (S 8 j 6 + S 8 j 3) ∧ u = (n, am, S))) 0 0 (ts_A (n, am, S) sz) := by
  refine zM_of (by decide) rfl (Nat.le_of_ble_eq_true rfl) ?_
  intro p e s m below meth c hx hb hr hts hown hlocks hml hname hK hsz H locs hI ls hl
  subst hsz
  have hown : s.vm.findClass RX0 = some m.cls := hown
  have hl : lv_has ls 1 [(0, .ref (am 8 j))] := hl
  have f22 := hts (.fieldLink RX0 22 "DockyardSlots$Appointment" "work" "I") (by decide +kernel)
  have f28 := hts (.fieldLink RX0 28 "DockyardSlots$Appointment" "dockedAt" "I") (by decide +kernel)
  have LX0 : ∀ w ∈ wsX00, w.before [.ref (am 8 j)].toArray s = true := fun w h => hts w (List.mem_cons_of_mem _ (List.mem_append_right _ h))
  refine lv_aload_n hx hb dX0_doneAt_0 rfl (lv_at hl 0 rfl) ?_
  refine zg_i (κ := 8) (i := j) (k := 6) hx hb LX0 hown hK hI hj rfl rfl (by decide) rfl f28 (fun _ h9 => h9) dX0_doneAt_1 rfl (fun b1 => ?_)
  refine lv_aload_n hx hb dX0_doneAt_4 rfl (lv_at hl 0 rfl) ?_
  refine zg_i (κ := 8) (i := j) (k := 3) hx hb LX0 hown hK hI hj rfl rfl (by decide) rfl f22 (fun _ h9 => h9) dX0_doneAt_5 rfl (fun b2 => ?_)
  refine z_iadd hx hb dX0_doneAt_8 ?_
  exact (ze_i (u' := (n, am, S)) (z := (S 8 j 6 + S 8 j 3)) hx hb hr rfl hI (by omega) ⟨rfl, rfl⟩ (Nat.le_of_ble_eq_true rfl) (Nat.le_of_ble_eq_true rfl) dX0_doneAt_9 hlocks)
set_option maxHeartbeats 4000000 in
set_option maxRecDepth 100000 in
theorem c_X1_canTake (l : Launch) (D : va_G) (cA : Nat → ClassId) (n : Nat → Nat) (am : ts_Am) (S : ts_St) (sz : Nat) (d j : Nat) (hd : d < n 7) (hj : j < n 8) : Met l yX1_canTake wsX1_canTake ({ frames := 0, cells := 0, slots := 0, locals := 0 } : Room) (va_Pc [.ref (am 7 d), .ref (am 8 j)] (zP TX D cA (n, am, S) sz)) (zQi TX D cA (n, am, S) sz (fun z u => z = zB (yServe S d j) ∧ u = (n, am, S))) 0 0 (ts_A (n, am, S) sz) := by
  refine zM_of (by decide) rfl (Nat.le_of_ble_eq_true rfl) ?_
  intro p e s m below meth c hx hb hr hts hown hlocks hml hname hK hsz H locs hI ls hl
  subst hsz
  have hown : s.vm.findClass RX1 = some m.cls := hown
  have hl : lv_has ls 2 [(0, .ref (am 7 d)), (1, .ref (am 8 j))] := hl
  have f15 := hts (.fieldLink RX1 15 "DockyardSlots$Door" "isUsed" "Z") (by decide +kernel)
  have f19 := hts (.fieldLink RX1 19 "DockyardSlots$Appointment" "kind" "C") (by decide +kernel)
  have f9 := hts (.fieldLink RX1 9 "DockyardSlots$Door" "kind" "C") (by decide +kernel)
  have LX0 : ∀ w ∈ wsX00, w.before [.ref (am 7 d), .ref (am 8 j)].toArray s = true := fun w h => hts w (List.mem_cons_of_mem _ (List.mem_append_right _ h))
  have LX1 : ∀ w ∈ wsX10, w.before [.ref (am 7 d), .ref (am 8 j)].toArray s = true := fun w h => hts w (List.mem_cons_of_mem _ (List.mem_append_left _ (List.mem_append_right _ h)))
  refine lv_aload_n hx hb dX1_canTake_0 rfl (lv_at hl 0 rfl) ?_
  refine zg_i (κ := 7) (i := d) (k := 1) hx hb LX1 hown hK hI hd rfl rfl (by decide) rfl f15 (fun _ h9 => h9) dX1_canTake_1 rfl (fun b1 => ?_)
  refine z_if_ne (tgt := 31) hx hb dX1_canTake_4 (by decide) (by omega) (fun c2 => ?_) (fun c2 => ?_)
  · skip
    refine z_iconst hx hb dX1_canTake_31 ?_
    exact (ze_i (u' := (n, am, S)) (z := 0) hx hb hr (iZ_narz (by omega) (by omega)).1 hI (by omega) ⟨(zB_f (by unfold yServe; omega)).symm, rfl⟩ (Nat.le_of_ble_eq_true rfl) (Nat.le_of_ble_eq_true rfl) dX1_canTake_32 hlocks)
  · skip
    refine lv_aload_n hx hb dX1_canTake_7 rfl (lv_at hl 0 rfl) ?_
    refine zg_i (κ := 7) (i := d) (k := 0) hx hb LX1 hown hK hI hd rfl rfl (by decide) rfl f9 (fun _ h9 => h9) dX1_canTake_8 rfl (fun b3 => ?_)
    refine z_bipush hx hb dX1_canTake_11 (by decide) ?_
    refine z_icmp_eq (tgt := 27) hx hb dX1_canTake_13 (by decide) (by omega) (by omega) (fun c4 => ?_) (fun c4 => ?_)
    · skip
      refine z_iconst hx hb dX1_canTake_27 ?_
      refine lv_goto (tgt := 32) hx hb dX1_canTake_28 (by decide) ?_
      exact (ze_i (u' := (n, am, S)) (z := 1) hx hb hr (iZ_narz (by omega) (by omega)).1 hI (by omega) ⟨(zB_t (by unfold yServe; omega)).symm, rfl⟩ (Nat.le_of_ble_eq_true rfl) (Nat.le_of_ble_eq_true rfl) dX1_canTake_32 hlocks)
    · skip
      refine lv_aload_n hx hb dX1_canTake_16 rfl (lv_at hl 0 rfl) ?_
      refine zg_i (κ := 7) (i := d) (k := 0) hx hb LX1 hown hK hI hd rfl rfl (by decide) rfl f9 (fun _ h9 => h9) dX1_canTake_17 rfl (fun b5 => ?_)
      refine lv_aload_n hx hb dX1_canTake_20 rfl (lv_at hl 1 rfl) ?_
      refine zg_i (κ := 8) (i := j) (k := 2) hx hb LX0 hown hK hI hj rfl rfl (by decide) rfl f19 (fun _ h9 => h9) dX1_canTake_21 rfl (fun b6 => ?_)
      refine z_icmp_ne (tgt := 31) hx hb dX1_canTake_24 (by decide) (by omega) (by omega) (fun c7 => ?_) (fun c7 => ?_)
      · skip
        refine z_iconst hx hb dX1_canTake_31 ?_
        exact (ze_i (u' := (n, am, S)) (z := 0) hx hb hr (iZ_narz (by omega) (by omega)).1 hI (by omega) ⟨(zB_f (by unfold yServe; omega)).symm, rfl⟩ (Nat.le_of_ble_eq_true rfl) (Nat.le_of_ble_eq_true rfl) dX1_canTake_32 hlocks)
      · skip
        refine z_iconst hx hb dX1_canTake_27 ?_
        refine lv_goto (tgt := 32) hx hb dX1_canTake_28 (by decide) ?_
        exact (ze_i (u' := (n, am, S)) (z := 1) hx hb hr (iZ_narz (by omega) (by omega)).1 hI (by omega) ⟨(zB_t (by unfold yServe; omega)).symm, rfl⟩ (Nat.le_of_ble_eq_true rfl) (Nat.le_of_ble_eq_true rfl) dX1_canTake_32 hlocks)
set_option maxHeartbeats 4000000 in
set_option maxRecDepth 100000 in
theorem c_X2_canTake (l : Launch) (D : va_G) (cA : Nat → ClassId) (n : Nat → Nat) (am : ts_Am) (S : ts_St) (sz : Nat) (i j : Nat) (hi : i < n 5) (hj : j < n 8) : Met l yX2_canTake wsX2_canTake ({ frames := 0, cells := 0, slots := 0, locals := 0 } : Room) (va_Pc [.ref (am 5 i), .ref (am 8 j)] (zP TX D cA (n, am, S) sz)) (zQi TX D cA (n, am, S) sz (fun z u => z = zB (yTake S i j) ∧ u = (n, am, S))) 0 0 (ts_A (n, am, S) sz) := by
  refine zM_of (by decide) rfl (Nat.le_of_ble_eq_true rfl) ?_
  intro p e s m below meth c hx hb hr hts hown hlocks hml hname hK hsz H locs hI ls hl
  subst hsz
  have hown : s.vm.findClass RX2 = some m.cls := hown
  have hl : lv_has ls 2 [(0, .ref (am 5 i)), (1, .ref (am 8 j))] := hl
  have f15 := hts (.fieldLink RX2 15 "DockyardSlots$Lane" "capacity" "I") (by decide +kernel)
  have f18 := hts (.fieldLink RX2 18 "DockyardSlots$Lane" "hasPower" "Z") (by decide +kernel)
  have f28 := hts (.fieldLink RX2 28 "DockyardSlots$Lane" "count" "I") (by decide +kernel)
  have f31 := hts (.fieldLink RX2 31 "DockyardSlots$Appointment" "kind" "C") (by decide +kernel)
  have LX0 : ∀ w ∈ wsX00, w.before [.ref (am 5 i), .ref (am 8 j)].toArray s = true := fun w h => hts w (List.mem_cons_of_mem _ (List.mem_append_right _ h))
  have LX2 : ∀ w ∈ wsX20, w.before [.ref (am 5 i), .ref (am 8 j)].toArray s = true := fun w h => hts w (List.mem_cons_of_mem _ (List.mem_append_left _ (List.mem_append_right _ h)))
  refine lv_aload_n hx hb dX2_canTake_0 rfl (lv_at hl 0 rfl) ?_
  refine zg_i (κ := 5) (i := i) (k := 4) hx hb LX2 hown hK hI hi rfl rfl (by decide) rfl f28 (fun _ h9 => h9) dX2_canTake_1 rfl (fun b1 => ?_)
  refine lv_aload_n hx hb dX2_canTake_4 rfl (lv_at hl 0 rfl) ?_
  refine zg_i (κ := 5) (i := i) (k := 1) hx hb LX2 hown hK hI hi rfl rfl (by decide) rfl f15 (fun _ h9 => h9) dX2_canTake_5 rfl (fun b2 => ?_)
  refine z_icmp_ge (tgt := 31) hx hb dX2_canTake_8 (by decide) (by omega) (by omega) (fun c3 => ?_) (fun c3 => ?_)
  · skip
    refine z_iconst hx hb dX2_canTake_31 ?_
    exact (ze_i (u' := (n, am, S)) (z := 0) hx hb hr (iZ_narz (by omega) (by omega)).1 hI (by omega) ⟨(zB_f (by unfold yTake; omega)).symm, rfl⟩ (Nat.le_of_ble_eq_true rfl) (Nat.le_of_ble_eq_true rfl) dX2_canTake_32 hlocks)
  · skip
    refine lv_aload_n hx hb dX2_canTake_11 rfl (lv_at hl 0 rfl) ?_
    refine zg_i (κ := 5) (i := i) (k := 2) hx hb LX2 hown hK hI hi rfl rfl (by decide) rfl f18 (fun _ h9 => h9) dX2_canTake_12 rfl (fun b4 => ?_)
    refine z_if_ne (tgt := 27) hx hb dX2_canTake_15 (by decide) (by omega) (fun c5 => ?_) (fun c5 => ?_)
    · skip
      refine z_iconst hx hb dX2_canTake_27 ?_
      refine lv_goto (tgt := 32) hx hb dX2_canTake_28 (by decide) ?_
      exact (ze_i (u' := (n, am, S)) (z := 1) hx hb hr (iZ_narz (by omega) (by omega)).1 hI (by omega) ⟨(zB_t (by unfold yTake; omega)).symm, rfl⟩ (Nat.le_of_ble_eq_true rfl) (Nat.le_of_ble_eq_true rfl) dX2_canTake_32 hlocks)
    · skip
      refine lv_aload_n hx hb dX2_canTake_18 rfl (lv_at hl 1 rfl) ?_
      refine zg_i (κ := 8) (i := j) (k := 2) hx hb LX0 hown hK hI hj rfl rfl (by decide) rfl f31 (fun _ h9 => h9) dX2_canTake_19 rfl (fun b6 => ?_)
      refine z_bipush hx hb dX2_canTake_22 (by decide) ?_
      refine z_icmp_eq (tgt := 31) hx hb dX2_canTake_24 (by decide) (by omega) (by omega) (fun c7 => ?_) (fun c7 => ?_)
      · skip
        refine z_iconst hx hb dX2_canTake_31 ?_
        exact (ze_i (u' := (n, am, S)) (z := 0) hx hb hr (iZ_narz (by omega) (by omega)).1 hI (by omega) ⟨(zB_f (by unfold yTake; omega)).symm, rfl⟩ (Nat.le_of_ble_eq_true rfl) (Nat.le_of_ble_eq_true rfl) dX2_canTake_32 hlocks)
      · skip
        refine z_iconst hx hb dX2_canTake_27 ?_
        refine lv_goto (tgt := 32) hx hb dX2_canTake_28 (by decide) ?_
        exact (ze_i (u' := (n, am, S)) (z := 1) hx hb hr (iZ_narz (by omega) (by omega)).1 hI (by omega) ⟨(zB_t (by unfold yTake; omega)).symm, rfl⟩ (Nat.le_of_ble_eq_true rfl) (Nat.le_of_ble_eq_true rfl) dX2_canTake_32 hlocks)
set_option maxHeartbeats 4000000 in
set_option maxRecDepth 100000 in
theorem c_X2_countBefore (l : Launch) (D : va_G) (cA : Nat → ClassId) (n : Nat → Nat) (am : ts_Am) (S : ts_St) (sz : Nat) (i j : Nat) (hi : i < n 5) (hj : j < n 8) : Met l yX2_countBefore wsX2_countBefore ({ frames := 0, cells := 0, slots := 0, locals := 0 } : Room) (va_Pc [.ref (am 5 i), .ref (am 8 j)] (zP TX D cA (n, am, S) sz)) (zQi TX D cA (n, am, S) sz (fun z u => z = yBefore S i j ∧ u = (n, am, S))) 0 0 (ts_A (n, am, S) sz) := by
  refine zM_of (by decide) rfl (Nat.le_of_ble_eq_true rfl) ?_
  intro p e s m below meth c hx hb hr hts hown hlocks hml hname hK hsz H locs hI ls hl
  subst hsz
  have hown : s.vm.findClass RX2 = some m.cls := hown
  have hl : lv_has ls 2 [(0, .ref (am 5 i)), (1, .ref (am 8 j))] := hl
  have f28 := hts (.fieldLink RX2 28 "DockyardSlots$Lane" "count" "I") (by decide +kernel)
  have f39 := hts (.fieldLink RX2 39 "DockyardSlots$Appointment" "place" "I") (by decide +kernel)
  have LX0 : ∀ w ∈ wsX00, w.before [.ref (am 5 i), .ref (am 8 j)].toArray s = true := fun w h => hts w (List.mem_cons_of_mem _ (List.mem_append_right _ h))
  have LX2 : ∀ w ∈ wsX20, w.before [.ref (am 5 i), .ref (am 8 j)].toArray s = true := fun w h => hts w (List.mem_cons_of_mem _ (List.mem_append_left _ (List.mem_append_right _ h)))
  refine lv_aload_n hx hb dX2_countBefore_0 rfl (lv_at hl 0 rfl) ?_
  refine zg_i (κ := 5) (i := i) (k := 4) hx hb LX2 hown hK hI hi rfl rfl (by decide) rfl f28 (fun _ h9 => h9) dX2_countBefore_1 rfl (fun b1 => ?_)
  refine z_iconst hx hb dX2_countBefore_4 ?_
  refine z_isub hx hb dX2_countBefore_5 ?_
  refine lv_aload_n hx hb dX2_countBefore_6 rfl (lv_at hl 1 rfl) ?_
  refine zg_i (κ := 8) (i := j) (k := 8) hx hb LX0 hown hK hI hj rfl rfl (by decide) rfl f39 (fun _ h9 => h9) dX2_countBefore_7 rfl (fun b2 => ?_)
  refine z_isub hx hb dX2_countBefore_10 ?_
  exact (ze_i (u' := (n, am, S)) (z := ((S 5 i 4 - 1) - S 8 j 8)) hx hb hr rfl hI (by omega) ⟨rfl, rfl⟩ (Nat.le_of_ble_eq_true rfl) (Nat.le_of_ble_eq_true rfl) dX2_countBefore_11 hlocks)
set_option maxHeartbeats 4000000 in
set_option maxRecDepth 100000 in
theorem c_X2_fromExit (l : Launch) (D : va_G) (cA : Nat → ClassId) (n : Nat → Nat) (am : ts_Am) (S : ts_St) (sz : Nat) (i : Nat) (x : Int) (hW : cW n S) (hi : i < n 5) (hx0 : iR x) : Met l yX2_fromExit wsX2_fromExit ({ frames := 0, cells := 0, slots := 0, locals := 0 } : Room) (va_Pc [.ref (am 5 i), .int (iZ x)] (zP TX D cA (n, am, S) sz)) (zQq TX D cA (n, am, S) sz 8 (fun z u => z = yExit S i x ∧ u = (n, am, S))) 0 0 (ts_A (n, am, S) sz) := by
  refine zM_of (by decide) rfl (Nat.le_of_ble_eq_true rfl) ?_
  intro p e s m below meth c hx hb hr hts hown hlocks hml hname hK hsz H locs hI ls hl
  subst hsz
  have hown : s.vm.findClass RX2 = some m.cls := hown
  have hl : lv_has ls 2 [(0, .ref (am 5 i)), (1, .int (iZ x))] := hl
  have f24 := hts (.fieldLink RX2 24 "DockyardSlots$Lane" "trailers" "[LDockyardSlots$Appointment;") (by decide +kernel)
  have f28 := hts (.fieldLink RX2 28 "DockyardSlots$Lane" "count" "I") (by decide +kernel)
  have LX2 : ∀ w ∈ wsX20, w.before [.ref (am 5 i), .int (iZ x)].toArray s = true := fun w h => hts w (List.mem_cons_of_mem _ (List.mem_append_right _ h))
  refine lv_iload_n hx hb dX2_fromExit_0 rfl (lv_at hl 1 rfl) ?_
  refine z_if_lt (tgt := 24) hx hb dX2_fromExit_1 (by decide) (by omega) (fun c1 => ?_) (fun c1 => ?_)
  · skip
    refine lv_null hx hb dX2_fromExit_24 ?_
    exact (ze_q (u' := (n, am, S)) (z := -1) hx hb hr (Or.inl ⟨_, rfl⟩) hI (ts_rf_n (by decide)).symm (by decide) (by omega) ⟨by rw [yExit_f (by omega)], rfl⟩ (Nat.le_of_ble_eq_true rfl) (Nat.le_of_ble_eq_true rfl) dX2_fromExit_25 hlocks)
  · skip
    refine lv_iload_n hx hb dX2_fromExit_4 rfl (lv_at hl 1 rfl) ?_
    refine lv_aload_n hx hb dX2_fromExit_5 rfl (lv_at hl 0 rfl) ?_
    refine zg_i (κ := 5) (i := i) (k := 4) hx hb LX2 hown hK hI hi rfl rfl (by decide) rfl f28 (fun _ h9 => h9) dX2_fromExit_6 rfl (fun b2 => ?_)
    refine z_icmp_ge (tgt := 24) hx hb dX2_fromExit_9 (by decide) (by omega) (by omega) (fun c3 => ?_) (fun c3 => ?_)
    · skip
      refine lv_null hx hb dX2_fromExit_24 ?_
      exact (ze_q (u' := (n, am, S)) (z := -1) hx hb hr (Or.inl ⟨_, rfl⟩) hI (ts_rf_n (by decide)).symm (by decide) (by omega) ⟨by rw [yExit_f (by omega)], rfl⟩ (Nat.le_of_ble_eq_true rfl) (Nat.le_of_ble_eq_true rfl) dX2_fromExit_25 hlocks)
    · skip
      refine lv_aload_n hx hb dX2_fromExit_12 rfl (lv_at hl 0 rfl) ?_
      refine zg_i (κ := 5) (i := i) (k := 4) hx hb LX2 hown hK hI hi rfl rfl (by decide) rfl f28 (fun _ h9 => h9) dX2_fromExit_13 rfl (fun b4 => ?_)
      refine lv_aload_n hx hb dX2_fromExit_16 rfl (lv_at hl 0 rfl) ?_
      refine zg_r (κ := 5) (i := i) (k := 3) (t := 6) (j := i) hx hb LX2 hown hK hI hi rfl rfl (by decide) rfl f24 (fun _ h9 => h9) dX2_fromExit_17 ((hW.2.2.1 _ hi).2) (fun v5 => ?_)
      refine zal hx hb hK hI v5 rfl dX2_fromExit_20 ?_
      refine z_icmp_le (tgt := 26) hx hb dX2_fromExit_21 (by decide) (by omega) (by omega) (fun c6 => ?_) (fun c6 => ?_)
      · skip
        refine lv_aload_n hx hb dX2_fromExit_26 rfl (lv_at hl 0 rfl) ?_
        refine zg_r (κ := 5) (i := i) (k := 3) (t := 6) (j := i) hx hb LX2 hown hK hI hi rfl rfl (by decide) rfl f24 (fun _ h9 => h9) dX2_fromExit_27 ((hW.2.2.1 _ hi).2) (fun v7 => ?_)
        refine lv_aload_n hx hb dX2_fromExit_30 rfl (lv_at hl 0 rfl) ?_
        refine zg_i (κ := 5) (i := i) (k := 4) hx hb LX2 hown hK hI hi rfl rfl (by decide) rfl f28 (fun _ h9 => h9) dX2_fromExit_31 rfl (fun b8 => ?_)
        refine z_iconst hx hb dX2_fromExit_34 ?_
        refine z_isub hx hb dX2_fromExit_35 ?_
        refine lv_iload_n hx hb dX2_fromExit_36 rfl (lv_at hl 1 rfl) ?_
        refine z_isub hx hb dX2_fromExit_37 ?_
        refine za_q (κ := 6) (i := i) hx hb hK hI v7 rfl (by omega) (by omega) (by omega) dX2_fromExit_38 (fun q9 => ?_) (fun j12 q10 v11 => ?_)
        · skip
          exact (ze_q (u' := (n, am, S)) (z := -1) hx hb hr (Or.inl ⟨_, rfl⟩) hI (ts_rf_n (by decide)).symm (by decide) (by omega) ⟨by rw [yExit_t (by omega)]; exact q9.symm, rfl⟩ (Nat.le_of_ble_eq_true rfl) (Nat.le_of_ble_eq_true rfl) dX2_fromExit_39 hlocks)
        · skip
          exact (ze_q (u' := (n, am, S)) (z := (j12 : Int)) hx hb hr (Or.inl ⟨_, rfl⟩) hI (ts_V_ref _ _ _).symm (by omega) (Int.ofNat_lt.mpr v11) ⟨by rw [yExit_t (by omega)]; exact q10.symm, rfl⟩ (Nat.le_of_ble_eq_true rfl) (Nat.le_of_ble_eq_true rfl) dX2_fromExit_39 hlocks)
      · skip
        refine lv_null hx hb dX2_fromExit_24 ?_
        exact (ze_q (u' := (n, am, S)) (z := -1) hx hb hr (Or.inl ⟨_, rfl⟩) hI (ts_rf_n (by decide)).symm (by decide) (by omega) ⟨by rw [yExit_f (by omega)], rfl⟩ (Nat.le_of_ble_eq_true rfl) (Nat.le_of_ble_eq_true rfl) dX2_fromExit_25 hlocks)
set_option maxHeartbeats 4000000 in
set_option maxRecDepth 100000 in
theorem c_X4_isOutside (l : Launch) (D : va_G) (cA : Nat → ClassId) (n : Nat → Nat) (am : ts_Am) (S : ts_St) (sz : Nat) (a b d : Int) (ha : iR a) (hb1 : iR b) (hd : iR d) : Met l yX4_isOutside wsX4_isOutside ({ frames := 0, cells := 0, slots := 0, locals := 0 } : Room) (va_Pc [.int (iZ a), .int (iZ b), .int (iZ d)] (zP TX D cA (n, am, S) sz)) (zQi TX D cA (n, am, S) sz (fun z u => z = zB (yOut a b d) ∧ u = (n, am, S))) 0 0 (ts_A (n, am, S) sz) := by
  refine zM_of (by decide) rfl (Nat.le_of_ble_eq_true rfl) ?_
  intro p e s m below meth c hx hb hr hts hown hlocks hml hname hK hsz H locs hI ls hl
  subst hsz
  have hown : s.vm.findClass RX4 = some m.cls := hown
  have hl : lv_has ls 3 [(0, .int (iZ a)), (1, .int (iZ b)), (2, .int (iZ d))] := hl
  refine lv_iload_n hx hb dX4_isOutside_0 rfl (lv_at hl 0 rfl) ?_
  refine lv_iload_n hx hb dX4_isOutside_1 rfl (lv_at hl 1 rfl) ?_
  refine z_icmp_lt (tgt := 10) hx hb dX4_isOutside_2 (by decide) (by omega) (by omega) (fun c1 => ?_) (fun c1 => ?_)
  · skip
    refine z_iconst hx hb dX4_isOutside_10 ?_
    refine lv_goto (tgt := 15) hx hb dX4_isOutside_11 (by decide) ?_
    exact (ze_i (u' := (n, am, S)) (z := 1) hx hb hr (iZ_narz (by omega) (by omega)).1 hI (by omega) ⟨(zB_t (by unfold yOut; omega)).symm, rfl⟩ (Nat.le_of_ble_eq_true rfl) (Nat.le_of_ble_eq_true rfl) dX4_isOutside_15 hlocks)
  · skip
    refine lv_iload_n hx hb dX4_isOutside_5 rfl (lv_at hl 0 rfl) ?_
    refine lv_iload_n hx hb dX4_isOutside_6 rfl (lv_at hl 2 rfl) ?_
    refine z_icmp_le (tgt := 14) hx hb dX4_isOutside_7 (by decide) (by omega) (by omega) (fun c2 => ?_) (fun c2 => ?_)
    · skip
      refine z_iconst hx hb dX4_isOutside_14 ?_
      exact (ze_i (u' := (n, am, S)) (z := 0) hx hb hr (iZ_narz (by omega) (by omega)).1 hI (by omega) ⟨(zB_f (by unfold yOut; omega)).symm, rfl⟩ (Nat.le_of_ble_eq_true rfl) (Nat.le_of_ble_eq_true rfl) dX4_isOutside_15 hlocks)
    · skip
      refine z_iconst hx hb dX4_isOutside_10 ?_
      refine lv_goto (tgt := 15) hx hb dX4_isOutside_11 (by decide) ?_
      exact (ze_i (u' := (n, am, S)) (z := 1) hx hb hr (iZ_narz (by omega) (by omega)).1 hI (by omega) ⟨(zB_t (by unfold yOut; omega)).symm, rfl⟩ (Nat.le_of_ble_eq_true rfl) (Nat.le_of_ble_eq_true rfl) dX4_isOutside_15 hlocks)
set_option maxHeartbeats 4000000 in
set_option maxRecDepth 100000 in
theorem c_X2_takeOut (l : Launch) (D : va_G) (cA : Nat → ClassId) (n : Nat → Nat) (am : ts_Am) (S : ts_St) (sz : Nat) (i : Nat) (hW : cW n S) (hi : i < n 5) : Met l yX2_takeOut wsX2_takeOut ({ frames := 1, cells := 0, slots := 0, locals := 21 } : Room) (va_Pc [.ref (am 5 i)] (zP TX D cA (n, am, S) sz)) (zQq TX D cA (n, am, S) sz 8 (fun z u => z = yExit S i 0 ∧ u = (n, am, yTakeOut S i))) 0 0 (ts_A (n, am, S) sz) := by
  refine zM_of (by decide) rfl (Nat.le_of_ble_eq_true rfl) ?_
  intro p e s m below meth c hx hb hr hts hown hlocks hml hname hK hsz H locs hI ls hl
  subst hsz
  have hown : s.vm.findClass RX2 = some m.cls := hown
  have hl : lv_has ls 2 [(0, .ref (am 5 i))] := hl
  have f28 := hts (.fieldLink RX2 28 "DockyardSlots$Lane" "count" "I") (by decide +kernel)
  have f35 := hts (.fieldLink RX2 35 "DockyardSlots$Appointment" "lane" "LDockyardSlots$Lane;") (by decide +kernel)
  have LX0 : ∀ w ∈ wsX00, w.before [.ref (am 5 i)].toArray s = true := fun w h => hts w (List.mem_cons_of_mem _ (List.mem_append_right _ h))
  have LX2 : ∀ w ∈ wsX20, w.before [.ref (am 5 i)].toArray s = true := fun w h => hts w (List.mem_cons_of_mem _ (List.mem_append_left _ (List.mem_append_right _ h)))
  refine lv_aload_n hx hb dX2_takeOut_0 rfl (lv_at hl 0 rfl) ?_
  refine z_iconst hx hb dX2_takeOut_1 ?_
  refine zc_q (zrV (As := [.int (iZ 0)]) (rest := []) (κ := 5) (i := i) ⟨hx, hb, hml, hown, hts⟩ (c_X2_fromExit l D cA n am S H.size i 0 hW hi (by omega)) (cwV 1 hts gX2_takeOut_X2_fromExit rfl rfl rfl (by decide +kernel) ⟨Nat.le_of_ble_eq_true rfl, Nat.le_of_ble_eq_true rfl⟩) hK hI hi rfl rfl rfl hl.1 rfl (Nat.le_of_ble_eq_true rfl) dX2_takeOut_2 ⟨Nat.le_of_ble_eq_true rfl, Nat.le_of_ble_eq_true rfl⟩) hI (fun u9 H locs hp3 hI hfr => ?_) (fun j4 u9 H locs v5 hp3 hI hfr => ?_)
  · clear hfr
    obtain ⟨ez1, rfl⟩ := hp3
    refine lv_astore_nN (lv' := [(1, .null), (0, .ref (am 5 i))]) hx hb dX2_takeOut_5 rfl hl (by decide) rfl (fun ls hl => ?_)
    refine lv_aload_nN hx hb dX2_takeOut_6 rfl (lv_at hl 0 rfl) ?_
    refine lv_ifnullN (tgt := 25) hx hb dX2_takeOut_7 (by decide) ?_
    refine lv_aload_nN hx hb dX2_takeOut_25 rfl (lv_at hl 0 rfl) ?_
    exact (ze_q (u' := (n, am, S)) (z := -1) hx hb hr (Or.inl ⟨_, rfl⟩) hI (ts_rf_n (by decide)).symm (by decide) (by omega) ⟨by omega, by rw [yTakeOut_f (by omega)]⟩ (Nat.le_of_ble_eq_true rfl) (Nat.le_of_ble_eq_true rfl) dX2_takeOut_26 hlocks)
  · clear hfr
    obtain ⟨ej4, rfl⟩ := hp3
    have v5 : j4 < n 8 := v5
    refine lv_astore_n (lv' := [(1, .ref (am 8 j4)), (0, .ref (am 5 i))]) hx hb dX2_takeOut_5 rfl hl (by decide) rfl (fun ls hl => ?_)
    refine lv_aload_n hx hb dX2_takeOut_6 rfl (lv_at hl 0 rfl) ?_
    refine lv_ifnull hx hb dX2_takeOut_7 ?_
    have hin := yExit_in (S := S) (i := i) (x := 0) (by omega)
    refine lv_aload_n hx hb dX2_takeOut_10 rfl (lv_at hl 1 rfl) ?_
    refine lv_dup hx hb dX2_takeOut_11 rfl ?_
    refine zg_i (κ := 5) (i := i) (k := 4) hx hb LX2 hown hK hI hi rfl rfl (by decide) rfl f28 (fun _ h9 => h9) dX2_takeOut_12 rfl (fun b6 => ?_)
    refine z_iconst hx hb dX2_takeOut_15 ?_
    refine z_isub hx hb dX2_takeOut_16 ?_
    refine zp_i (κ := 5) (i := i) (k := 4) hx hb LX2 tyX2 tyX2_ok nmX2 hown hK hI hi rfl rfl (by decide) rfl f28 (fun _ h9 => h9) rfl rfl rfl (by omega) dX2_takeOut_17 (fun H locs hI => ?_)
    obtain ⟨S7, eS7⟩ : ∃ z, z = up3 S 5 i 4 (S 5 i 4 - 1) := ⟨_, rfl⟩
    rw [← eS7] at hI
    have hW : cW n S7 := by rw [eS7]; exact hW.put rfl
    refine lv_aload_n hx hb dX2_takeOut_20 rfl (lv_at hl 0 rfl) ?_
    refine lv_null hx hb dX2_takeOut_21 ?_
    refine zp_n (κ := 8) (i := j4) (k := 7) (t := 5) hx hb LX0 tyX0 tyX0_ok nmX0 hown hK hI v5 rfl rfl (by decide) rfl f35 (fun _ h9 => h9) rfl rfl rfl dX2_takeOut_22 (fun H locs hI => ?_)
    obtain ⟨S8, eS8⟩ : ∃ z, z = up3 S7 8 j4 7 (-1) := ⟨_, rfl⟩
    rw [← eS8] at hI
    have hW : cW n S8 := by rw [eS8]; exact hW.put rfl
    refine lv_aload_n hx hb dX2_takeOut_25 rfl (lv_at hl 0 rfl) ?_
    exact (ze_q (u' := (n, am, S8)) (z := (j4 : Int)) hx hb hr (Or.inl ⟨_, rfl⟩) hI (ts_V_ref _ _ _).symm (by omega) (Int.ofNat_lt.mpr v5) ⟨ej4, by rw [eS8, eS7, yTakeOut_t (by omega), ← ej4, Int.toNat_natCast]⟩ (Nat.le_of_ble_eq_true rfl) (Nat.le_of_ble_eq_true rfl) dX2_takeOut_26 hlocks)
set_option maxHeartbeats 4000000 in
set_option maxRecDepth 100000 in
theorem c_X2_bringIn (l : Launch) (D : va_G) (cA : Nat → ClassId) (n : Nat → Nat) (am : ts_Am) (S : ts_St) (sz : Nat) (i j : Nat) (hW : cW n S) (hi : i < n 5) (hj : j < n 8) : Met l yX2_bringIn wsX2_bringIn ({ frames := 0, cells := 0, slots := 0, locals := 0 } : Room) (va_Pc [.ref (am 5 i), .ref (am 8 j)] (zP TX D cA (n, am, S) sz)) (zQv TX D cA (n, am, S) sz (fun u => u = (n, am, yBring S i j))) 0 0 (ts_A (n, am, S) sz) := by
  refine zM_of (by decide) rfl (Nat.le_of_ble_eq_true rfl) ?_
  intro p e s m below meth c hx hb hr hts hown hlocks hml hname hK hsz H locs hI ls hl
  subst hsz
  have hown : s.vm.findClass RX2 = some m.cls := hown
  have hl : lv_has ls 2 [(0, .ref (am 5 i)), (1, .ref (am 8 j))] := hl
  have f24 := hts (.fieldLink RX2 24 "DockyardSlots$Lane" "trailers" "[LDockyardSlots$Appointment;") (by decide +kernel)
  have f28 := hts (.fieldLink RX2 28 "DockyardSlots$Lane" "count" "I") (by decide +kernel)
  have f35 := hts (.fieldLink RX2 35 "DockyardSlots$Appointment" "lane" "LDockyardSlots$Lane;") (by decide +kernel)
  have f39 := hts (.fieldLink RX2 39 "DockyardSlots$Appointment" "place" "I") (by decide +kernel)
  have LX0 : ∀ w ∈ wsX00, w.before [.ref (am 5 i), .ref (am 8 j)].toArray s = true := fun w h => hts w (List.mem_cons_of_mem _ (List.mem_append_right _ h))
  have LX2 : ∀ w ∈ wsX20, w.before [.ref (am 5 i), .ref (am 8 j)].toArray s = true := fun w h => hts w (List.mem_cons_of_mem _ (List.mem_append_left _ (List.mem_append_right _ h)))
  refine lv_aload_n hx hb dX2_bringIn_0 rfl (lv_at hl 0 rfl) ?_
  refine zg_i (κ := 5) (i := i) (k := 4) hx hb LX2 hown hK hI hi rfl rfl (by decide) rfl f28 (fun _ h9 => h9) dX2_bringIn_1 rfl (fun b1 => ?_)
  refine z_if_lt (tgt := 52) hx hb dX2_bringIn_4 (by decide) (by omega) (fun c2 => ?_) (fun c2 => ?_)
  · skip
    exact (ze_v (u' := (n, am, S)) hx hb hr hI (by rw [yBring_f (by omega)]) (Nat.le_of_ble_eq_true rfl) (Nat.le_of_ble_eq_true rfl) dX2_bringIn_52 hlocks)
  · skip
    refine lv_aload_n hx hb dX2_bringIn_7 rfl (lv_at hl 0 rfl) ?_
    refine zg_i (κ := 5) (i := i) (k := 4) hx hb LX2 hown hK hI hi rfl rfl (by decide) rfl f28 (fun _ h9 => h9) dX2_bringIn_8 rfl (fun b3 => ?_)
    refine lv_aload_n hx hb dX2_bringIn_11 rfl (lv_at hl 0 rfl) ?_
    refine zg_r (κ := 5) (i := i) (k := 3) (t := 6) (j := i) hx hb LX2 hown hK hI hi rfl rfl (by decide) rfl f24 (fun _ h9 => h9) dX2_bringIn_12 ((hW.2.2.1 _ hi).2) (fun v4 => ?_)
    refine zal hx hb hK hI v4 rfl dX2_bringIn_15 ?_
    refine z_icmp_ge (tgt := 52) hx hb dX2_bringIn_16 (by decide) (by omega) (by omega) (fun c5 => ?_) (fun c5 => ?_)
    · skip
      exact (ze_v (u' := (n, am, S)) hx hb hr hI (by rw [yBring_f (by omega)]) (Nat.le_of_ble_eq_true rfl) (Nat.le_of_ble_eq_true rfl) dX2_bringIn_52 hlocks)
    · skip
      refine lv_aload_n hx hb dX2_bringIn_19 rfl (lv_at hl 0 rfl) ?_
      refine zg_r (κ := 5) (i := i) (k := 3) (t := 6) (j := i) hx hb LX2 hown hK hI hi rfl rfl (by decide) rfl f24 (fun _ h9 => h9) dX2_bringIn_20 ((hW.2.2.1 _ hi).2) (fun v6 => ?_)
      refine lv_aload_n hx hb dX2_bringIn_23 rfl (lv_at hl 0 rfl) ?_
      refine zg_i (κ := 5) (i := i) (k := 4) hx hb LX2 hown hK hI hi rfl rfl (by decide) rfl f28 (fun _ h9 => h9) dX2_bringIn_24 rfl (fun b7 => ?_)
      refine lv_aload_n hx hb dX2_bringIn_27 rfl (lv_at hl 1 rfl) ?_
      refine zs_r (κ := 6) (i := i) (t := 8) (k := j) (r := (RX0, TX0, 10)) hx hb hK hI v6 rfl hj rfl rfl (by omega) (by omega) (by omega) (by have := hj; have := hW.2.2.2.1 8; omega) dX2_bringIn_28 (fun H locs hI => ?_)
      obtain ⟨S8, eS8⟩ : ∃ z, z = up3 S 6 i ((S 5 i 4).toNat) (j : Int) := ⟨_, rfl⟩
      rw [← eS8] at hI
      have hW : cW n S8 := by rw [eS8]; exact hW.put rfl
      refine lv_aload_n hx hb dX2_bringIn_29 rfl (lv_at hl 1 rfl) ?_
      refine lv_aload_n hx hb dX2_bringIn_30 rfl (lv_at hl 0 rfl) ?_
      refine zp_r (κ := 8) (i := j) (k := 7) (t := 5) (j := i) hx hb LX0 tyX0 tyX0_ok nmX0 hown hK hI hj rfl rfl (by decide) rfl f35 (fun _ h9 => h9) rfl rfl rfl hi (by have := hi; have := hW.2.2.2.1 5; omega) dX2_bringIn_31 (fun H locs hI => ?_)
      obtain ⟨S9, eS9⟩ : ∃ z, z = up3 S8 8 j 7 (i : Int) := ⟨_, rfl⟩
      rw [← eS9] at hI
      have hW : cW n S9 := by rw [eS9]; exact hW.put rfl
      refine lv_aload_n hx hb dX2_bringIn_34 rfl (lv_at hl 1 rfl) ?_
      refine lv_aload_n hx hb dX2_bringIn_35 rfl (lv_at hl 0 rfl) ?_
      refine zg_i (κ := 5) (i := i) (k := 4) hx hb LX2 hown hK hI hi rfl rfl (by decide) rfl f28 (fun _ h9 => h9) dX2_bringIn_36 (by rw [eS9, up3_n (by omega), eS8, up3_n (by omega)]) (fun b10 => ?_)
      refine zp_i (κ := 8) (i := j) (k := 8) hx hb LX0 tyX0 tyX0_ok nmX0 hown hK hI hj rfl rfl (by decide) rfl f39 (fun _ h9 => h9) rfl rfl rfl (by omega) dX2_bringIn_39 (fun H locs hI => ?_)
      obtain ⟨S11, eS11⟩ : ∃ z, z = up3 S9 8 j 8 (S 5 i 4) := ⟨_, rfl⟩
      rw [← eS11] at hI
      have hW : cW n S11 := by rw [eS11]; exact hW.put rfl
      refine lv_aload_n hx hb dX2_bringIn_42 rfl (lv_at hl 0 rfl) ?_
      refine lv_dup hx hb dX2_bringIn_43 rfl ?_
      refine zg_i (κ := 5) (i := i) (k := 4) hx hb LX2 hown hK hI hi rfl rfl (by decide) rfl f28 (fun _ h9 => h9) dX2_bringIn_44 (by rw [eS11, up3_n (by omega), eS9, up3_n (by omega), eS8, up3_n (by omega)]) (fun b12 => ?_)
      refine z_iconst hx hb dX2_bringIn_47 ?_
      refine z_iadd hx hb dX2_bringIn_48 ?_
      refine zp_i (κ := 5) (i := i) (k := 4) hx hb LX2 tyX2 tyX2_ok nmX2 hown hK hI hi rfl rfl (by decide) rfl f28 (fun _ h9 => h9) rfl rfl rfl (by omega) dX2_bringIn_49 (fun H locs hI => ?_)
      obtain ⟨S13, eS13⟩ : ∃ z, z = up3 S11 5 i 4 (S 5 i 4 + 1) := ⟨_, rfl⟩
      rw [← eS13] at hI
      have hW : cW n S13 := by rw [eS13]; exact hW.put rfl
      exact (ze_v (u' := (n, am, S13)) hx hb hr hI (by rw [eS13, eS11, eS9, eS8, yBring_t (by omega)]; rfl) (Nat.le_of_ble_eq_true rfl) (Nat.le_of_ble_eq_true rfl) dX2_bringIn_52 hlocks)
set_option maxHeartbeats 4000000 in
set_option maxRecDepth 100000 in
theorem c_X3_laneAt (l : Launch) (D : va_G) (cA : Nat → ClassId) (n : Nat → Nat) (am : ts_Am) (S : ts_St) (sz : Nat) (x : Int) (hW : cW n S) (hx0 : iR x) : Met l yX3_laneAt wsX3_laneAt ({ frames := 0, cells := 0, slots := 0, locals := 0 } : Room) (va_Pc [.ref (am 1 0), .int (iZ x)] (zP TX D cA (n, am, S) sz)) (zQq TX D cA (n, am, S) sz 5 (fun z u => z = yLane S x ∧ u = (n, am, S))) 0 0 (ts_A (n, am, S) sz) := by
  refine zM_of (by decide) rfl (Nat.le_of_ble_eq_true rfl) ?_
  intro p e s m below meth c hx hb hr hts hown hlocks hml hname hK hsz H locs hI ls hl
  subst hsz
  have hown : s.vm.findClass RX3 = some m.cls := hown
  have hl : lv_has ls 2 [(0, .ref (am 1 0)), (1, .int (iZ x))] := hl
  have f11 := hts (.fieldLink RX3 11 "DockyardSlots$LaneRow" "lanes" "[LDockyardSlots$Lane;") (by decide +kernel)
  have f17 := hts (.fieldLink RX3 17 "DockyardSlots$LaneRow" "count" "I") (by decide +kernel)
  have LX3 : ∀ w ∈ wsX30, w.before [.ref (am 1 0), .int (iZ x)].toArray s = true := fun w h => hts w (List.mem_cons_of_mem _ (List.mem_append_right _ h))
  refine lv_iload_n hx hb dX3_laneAt_0 rfl (lv_at hl 1 rfl) ?_
  refine z_if_lt (tgt := 21) hx hb dX3_laneAt_1 (by decide) (by omega) (fun c1 => ?_) (fun c1 => ?_)
  · skip
    refine lv_null hx hb dX3_laneAt_21 ?_
    exact (ze_q (u' := (n, am, S)) (z := -1) hx hb hr (Or.inl ⟨_, rfl⟩) hI (ts_rf_n (by decide)).symm (by decide) (by omega) ⟨by rw [yLane_f (by omega)], rfl⟩ (Nat.le_of_ble_eq_true rfl) (Nat.le_of_ble_eq_true rfl) dX3_laneAt_22 hlocks)
  · skip
    refine lv_iload_n hx hb dX3_laneAt_4 rfl (lv_at hl 1 rfl) ?_
    refine lv_aload_n hx hb dX3_laneAt_5 rfl (lv_at hl 0 rfl) ?_
    refine zg_i (κ := 1) (i := 0) (k := 1) hx hb LX3 hown hK hI hW.1.2.1 rfl rfl (by decide) rfl f17 (fun _ h9 => h9) dX3_laneAt_6 rfl (fun b2 => ?_)
    refine z_icmp_ge (tgt := 21) hx hb dX3_laneAt_9 (by decide) (by omega) (by omega) (fun c3 => ?_) (fun c3 => ?_)
    · skip
      refine lv_null hx hb dX3_laneAt_21 ?_
      exact (ze_q (u' := (n, am, S)) (z := -1) hx hb hr (Or.inl ⟨_, rfl⟩) hI (ts_rf_n (by decide)).symm (by decide) (by omega) ⟨by rw [yLane_f (by omega)], rfl⟩ (Nat.le_of_ble_eq_true rfl) (Nat.le_of_ble_eq_true rfl) dX3_laneAt_22 hlocks)
    · skip
      refine lv_iload_n hx hb dX3_laneAt_12 rfl (lv_at hl 1 rfl) ?_
      refine lv_aload_n hx hb dX3_laneAt_13 rfl (lv_at hl 0 rfl) ?_
      refine zg_r (κ := 1) (i := 0) (k := 0) (t := 2) (j := 0) hx hb LX3 hown hK hI hW.1.2.1 rfl rfl (by decide) rfl f11 (fun _ h9 => h9) dX3_laneAt_14 hW.2.1.2.2.2 (fun v4 => ?_)
      refine zal hx hb hK hI v4 rfl dX3_laneAt_17 ?_
      refine z_icmp_lt (tgt := 23) hx hb dX3_laneAt_18 (by decide) (by omega) (by omega) (fun c5 => ?_) (fun c5 => ?_)
      · skip
        refine lv_aload_n hx hb dX3_laneAt_23 rfl (lv_at hl 0 rfl) ?_
        refine zg_r (κ := 1) (i := 0) (k := 0) (t := 2) (j := 0) hx hb LX3 hown hK hI hW.1.2.1 rfl rfl (by decide) rfl f11 (fun _ h9 => h9) dX3_laneAt_24 hW.2.1.2.2.2 (fun v6 => ?_)
        refine lv_iload_n hx hb dX3_laneAt_27 rfl (lv_at hl 1 rfl) ?_
        refine za_q (κ := 2) (i := 0) hx hb hK hI v6 rfl (by omega) (by omega) (by omega) dX3_laneAt_28 (fun q7 => ?_) (fun j10 q8 v9 => ?_)
        · skip
          exact (ze_q (u' := (n, am, S)) (z := -1) hx hb hr (Or.inl ⟨_, rfl⟩) hI (ts_rf_n (by decide)).symm (by decide) (by omega) ⟨by rw [yLane_t (by omega)]; exact q7.symm, rfl⟩ (Nat.le_of_ble_eq_true rfl) (Nat.le_of_ble_eq_true rfl) dX3_laneAt_29 hlocks)
        · skip
          exact (ze_q (u' := (n, am, S)) (z := (j10 : Int)) hx hb hr (Or.inl ⟨_, rfl⟩) hI (ts_V_ref _ _ _).symm (by omega) (Int.ofNat_lt.mpr v9) ⟨by rw [yLane_t (by omega)]; exact q8.symm, rfl⟩ (Nat.le_of_ble_eq_true rfl) (Nat.le_of_ble_eq_true rfl) dX3_laneAt_29 hlocks)
      · skip
        refine lv_null hx hb dX3_laneAt_21 ?_
        exact (ze_q (u' := (n, am, S)) (z := -1) hx hb hr (Or.inl ⟨_, rfl⟩) hI (ts_rf_n (by decide)).symm (by decide) (by omega) ⟨by rw [yLane_f (by omega)], rfl⟩ (Nat.le_of_ble_eq_true rfl) (Nat.le_of_ble_eq_true rfl) dX3_laneAt_22 hlocks)
set_option maxHeartbeats 4000000 in
set_option maxRecDepth 100000 in
theorem c_X3_trailerCount (l : Launch) (D : va_G) (cA : Nat → ClassId) (n : Nat → Nat) (am : ts_Am) (S : ts_St) (sz : Nat)  (hW : cW n S) (hc : cOk n S) : Met l yX3_trailerCount wsX3_trailerCount ({ frames := 1, cells := 0, slots := 0, locals := 21 } : Room) (va_Pc [.ref (am 1 0)] (zP TX D cA (n, am, S) sz)) (zQi TX D cA (n, am, S) sz (fun z u => z = ySum S (S 1 0 1).toNat ∧ u = (n, am, S))) 0 0 (ts_A (n, am, S) sz) := by
  refine zM_of (by decide) rfl (Nat.le_of_ble_eq_true rfl) ?_
  intro p e s m below meth c hx hb hr hts hown hlocks hml hname hK hsz H locs hI ls hl
  subst hsz
  have hown : s.vm.findClass RX3 = some m.cls := hown
  have hl : lv_has ls 4 [(0, .ref (am 1 0))] := hl
  have f17 := hts (.fieldLink RX3 17 "DockyardSlots$LaneRow" "count" "I") (by decide +kernel)
  have f28 := hts (.fieldLink RX3 28 "DockyardSlots$Lane" "count" "I") (by decide +kernel)
  have LX2 : ∀ w ∈ wsX20, w.before [.ref (am 1 0)].toArray s = true := fun w h => hts w (List.mem_cons_of_mem _ (List.mem_append_right _ h))
  have LX3 : ∀ w ∈ wsX30, w.before [.ref (am 1 0)].toArray s = true := fun w h => hts w (List.mem_cons_of_mem _ (List.mem_append_left _ (List.mem_append_right _ h)))
  have hc1 := hc.1
  refine z_iconst hx hb dX3_trailerCount_0 ?_
  refine lv_istore_n (lv' := [(1, .int (iZ 0)), (0, .ref (am 1 0))]) hx hb dX3_trailerCount_1 rfl hl (by decide) rfl (fun ls hl => ?_)
  refine z_iconst hx hb dX3_trailerCount_2 ?_
  refine lv_istore_n (lv' := [(2, .int (iZ 0)), (1, .int (iZ 0)), (0, .ref (am 1 0))]) hx hb dX3_trailerCount_3 rfl hl (by decide) rfl (fun ls hl => ?_)
  obtain ⟨x, e_x⟩ : ∃ z : Int, z = 0 := ⟨_, rfl⟩
  obtain ⟨y, e_y⟩ : ∃ z : Int, z = 0 := ⟨_, rfl⟩
  replace hl : lv_has ls 4 [(2, .int (iZ y)), (1, .int (iZ x)), (0, .ref (am 1 0))] := by rw [e_x, e_y]; exact hl
  have h1 : 0 ≤ y ∧ y ≤ S 1 0 1 := by omega
  have h2 : x = ySum S y.toNat := by rw [e_x, e_y]; rfl
  have h3 : 0 ≤ x ∧ x ≤ 3 * y := by omega
  obtain ⟨k, hk⟩ : ∃ k : Nat, S 1 0 1 - y < (k : Int) := ⟨(S 1 0 1 - y).toNat + 1, by omega⟩
  clear e_x e_y
  induction k generalizing x y H locs ls with
  | zero => omega
  | succ k ih =>
    refine lv_iload_n hx hb dX3_trailerCount_4 rfl (lv_at hl 0 rfl) ?_
    refine lv_aload_n hx hb dX3_trailerCount_5 rfl (lv_at hl 2 rfl) ?_
    refine zg_i (κ := 1) (i := 0) (k := 1) hx hb LX3 hown hK hI hW.1.2.1 rfl rfl (by decide) rfl f17 (fun _ h9 => h9) dX3_trailerCount_6 rfl (fun b1 => ?_)
    refine z_icmp_ge (tgt := 35) hx hb dX3_trailerCount_9 (by decide) (by omega) (by omega) (fun c2 => ?_) (fun c2 => ?_)
    · skip
      refine lv_iload_n hx hb dX3_trailerCount_35 rfl (lv_at hl 1 rfl) ?_
      exact (ze_i (u' := (n, am, S)) (z := x) hx hb hr rfl hI (by omega) ⟨by rw [h2, show y = S 1 0 1 by omega], rfl⟩ (Nat.le_of_ble_eq_true rfl) (Nat.le_of_ble_eq_true rfl) dX3_trailerCount_36 hlocks)
    · skip
      refine lv_aload_n hx hb dX3_trailerCount_12 rfl (lv_at hl 2 rfl) ?_
      refine lv_iload_n hx hb dX3_trailerCount_13 rfl (lv_at hl 0 rfl) ?_
      refine zc_q (zrV (As := [.int (iZ y)]) (rest := []) (κ := 1) (i := 0) ⟨hx, hb, hml, hown, hts⟩ (c_X3_laneAt l D cA n am S H.size y hW (by omega)) (cwV 1 hts gX3_trailerCount_X3_laneAt rfl rfl rfl (by decide +kernel) ⟨Nat.le_of_ble_eq_true rfl, Nat.le_of_ble_eq_true rfl⟩) hK hI hW.1.2.1 rfl rfl rfl hl.1 rfl (Nat.le_of_ble_eq_true rfl) dX3_trailerCount_14 ⟨Nat.le_of_ble_eq_true rfl, Nat.le_of_ble_eq_true rfl⟩) hI (fun u9 H locs hp5 hI hfr => ?_) (fun j6 u9 H locs v7 hp5 hI hfr => ?_)
      · clear hfr
        obtain ⟨ez3, rfl⟩ := hp5
        refine lv_astore_nN (lv' := [(3, .null), (2, .int (iZ y)), (1, .int (iZ x)), (0, .ref (am 1 0))]) hx hb dX3_trailerCount_17 rfl hl (by decide) rfl (fun ls hl => ?_)
        refine lv_aload_nN hx hb dX3_trailerCount_18 rfl (lv_at hl 0 rfl) ?_
        refine lv_ifnullN (tgt := 29) hx hb dX3_trailerCount_19 (by decide) ?_
        refine z_iinc (k := 1) (lv' := [(2, .int (iZ (y + 1))), (3, .null), (1, .int (iZ x)), (0, .ref (am 1 0))]) hx hb dX3_trailerCount_29 hl rfl (by decide) rfl (fun ls hl => ?_)
        refine lv_goto (tgt := 4) hx hb dX3_trailerCount_32 (by decide) ?_
        exact ih (x := x) (y := (y + 1)) (h1 := by omega) (h2 := by rw [ySum_s (by omega), if_neg (by omega)]; omega) (h3 := by omega) (hk := by omega) (hI := hI) (hl := lv_sub hl [0, 2, 3] rfl)
      · clear hfr
        obtain ⟨ej6, rfl⟩ := hp5
        have v7 : j6 < n 5 := v7
        refine lv_astore_n (lv' := [(3, .ref (am 5 j6)), (2, .int (iZ y)), (1, .int (iZ x)), (0, .ref (am 1 0))]) hx hb dX3_trailerCount_17 rfl hl (by decide) rfl (fun ls hl => ?_)
        refine lv_aload_n hx hb dX3_trailerCount_18 rfl (lv_at hl 0 rfl) ?_
        refine lv_ifnull hx hb dX3_trailerCount_19 ?_
        refine lv_iload_n hx hb dX3_trailerCount_22 rfl (lv_at hl 2 rfl) ?_
        refine lv_aload_n hx hb dX3_trailerCount_23 rfl (lv_at hl 0 rfl) ?_
        refine zg_i (κ := 5) (i := j6) (k := 4) hx hb LX2 hown hK hI v7 rfl rfl (by decide) rfl f28 (fun _ h9 => h9) dX3_trailerCount_24 rfl (fun b8 => ?_)
        refine z_iadd hx hb dX3_trailerCount_27 ?_
        refine lv_istore_n (lv' := [(1, .int (iZ (x + S 5 j6 4))), (3, .ref (am 5 j6)), (2, .int (iZ y)), (0, .ref (am 1 0))]) hx hb dX3_trailerCount_28 rfl hl (by decide) rfl (fun ls hl => ?_)
        refine z_iinc (k := 2) (lv' := [(2, .int (iZ (y + 1))), (1, .int (iZ (x + S 5 j6 4))), (3, .ref (am 5 j6)), (0, .ref (am 1 0))]) hx hb dX3_trailerCount_29 hl rfl (by decide) rfl (fun ls hl => ?_)
        refine lv_goto (tgt := 4) hx hb dX3_trailerCount_32 (by decide) ?_
        exact ih (x := (x + S 5 j6 4)) (y := (y + 1)) (h1 := by omega) (h2 := by rw [ySum_s (by omega), if_pos (by omega), ← ej6, Int.toNat_natCast]; omega) (h3 := by have := hc.2 j6 v7; omega) (hk := by omega) (hI := hI) (hl := lv_sub hl [0, 1, 3] rfl)
set_option maxHeartbeats 4000000 in
set_option maxRecDepth 100000 in
theorem c_X3_allowMove (l : Launch) (D : va_G) (cA : Nat → ClassId) (n : Nat → Nat) (am : ts_Am) (S : ts_St) (sz : Nat) (a b : Int) (hW : cW n S) (ha : iR a) (hb1 : iR b) : Met l yX3_allowMove wsX3_allowMove ({ frames := 1, cells := 0, slots := 0, locals := 21 } : Room) (va_Pc [.ref (am 1 0), .int (iZ a), .int (iZ b)] (zP TX D cA (n, am, S) sz)) (zQi TX D cA (n, am, S) sz (fun z u => z = zB (yAllow S a b) ∧ u = (n, am, S))) 0 0 (ts_A (n, am, S) sz) := by
  refine zM_of (by decide) rfl (Nat.le_of_ble_eq_true rfl) ?_
  intro p e s m below meth c hx hb hr hts hown hlocks hml hname hK hsz H locs hI ls hl
  subst hsz
  have hown : s.vm.findClass RX3 = some m.cls := hown
  have hl : lv_has ls 6 [(0, .ref (am 1 0)), (1, .int (iZ a)), (2, .int (iZ b))] := hl
  refine lv_aload_n hx hb dX3_allowMove_0 rfl (lv_at hl 0 rfl) ?_
  refine lv_iload_n hx hb dX3_allowMove_1 rfl (lv_at hl 1 rfl) ?_
  refine zc_q (zrV (As := [.int (iZ a)]) (rest := []) (κ := 1) (i := 0) ⟨hx, hb, hml, hown, hts⟩ (c_X3_laneAt l D cA n am S H.size a hW (by omega)) (cwV 1 hts gX3_allowMove_X3_laneAt rfl rfl rfl (by decide +kernel) ⟨Nat.le_of_ble_eq_true rfl, Nat.le_of_ble_eq_true rfl⟩) hK hI hW.1.2.1 rfl rfl rfl hl.1 rfl (Nat.le_of_ble_eq_true rfl) dX3_allowMove_2 ⟨Nat.le_of_ble_eq_true rfl, Nat.le_of_ble_eq_true rfl⟩) hI (fun u9 H locs hp3 hI hfr => ?_) (fun j4 u9 H locs v5 hp3 hI hfr => ?_)
  · clear hfr
    obtain ⟨ez1, rfl⟩ := hp3
    refine lv_astore_nN (lv' := [(3, .null), (0, .ref (am 1 0)), (1, .int (iZ a)), (2, .int (iZ b))]) hx hb dX3_allowMove_5 rfl hl (by decide) rfl (fun ls hl => ?_)
    refine lv_aload_n hx hb dX3_allowMove_6 rfl (lv_at hl 1 rfl) ?_
    refine lv_iload_n hx hb dX3_allowMove_7 rfl (lv_at hl 3 rfl) ?_
    refine zc_q (zrV (As := [.int (iZ b)]) (rest := []) (κ := 1) (i := 0) ⟨hx, hb, hml, hown, hts⟩ (c_X3_laneAt l D cA n am S H.size b hW (by omega)) (cwV 1 hts gX3_allowMove_X3_laneAt rfl rfl rfl (by decide +kernel) ⟨Nat.le_of_ble_eq_true rfl, Nat.le_of_ble_eq_true rfl⟩) hK hI hW.1.2.1 rfl rfl rfl hl.1 rfl (Nat.le_of_ble_eq_true rfl) dX3_allowMove_8 ⟨Nat.le_of_ble_eq_true rfl, Nat.le_of_ble_eq_true rfl⟩) hI (fun u9 H locs hp8 hI hfr => ?_) (fun j9 u9 H locs v10 hp8 hI hfr => ?_)
    · clear hfr
      obtain ⟨ez6, rfl⟩ := hp8
      refine lv_astoreN (lv' := [(4, .null), (3, .null), (0, .ref (am 1 0)), (1, .int (iZ a)), (2, .int (iZ b))]) hx hb dX3_allowMove_11 hl (by decide) rfl (fun ls hl => ?_)
      refine lv_iload_n hx hb dX3_allowMove_13 rfl (lv_at hl 3 rfl) ?_
      refine lv_iload_n hx hb dX3_allowMove_14 rfl (lv_at hl 4 rfl) ?_
      refine z_icmp_eq (tgt := 27) hx hb dX3_allowMove_15 (by decide) (by omega) (by omega) (fun c11 => ?_) (fun c11 => ?_)
      · skip
        refine z_iconst hx hb dX3_allowMove_27 ?_
        exact (ze_i (u' := (n, am, S)) (z := 0) hx hb hr (iZ_narz (by omega) (by omega)).1 hI (by omega) ⟨(zB_f (fun q => by have := q.2.1; omega)).symm, rfl⟩ (Nat.le_of_ble_eq_true rfl) (Nat.le_of_ble_eq_true rfl) dX3_allowMove_28 hlocks)
      · skip
        refine lv_aload_nN hx hb dX3_allowMove_18 rfl (lv_at hl 1 rfl) ?_
        refine lv_ifnullN (tgt := 27) hx hb dX3_allowMove_19 (by decide) ?_
        refine z_iconst hx hb dX3_allowMove_27 ?_
        exact (ze_i (u' := (n, am, S)) (z := 0) hx hb hr (iZ_narz (by omega) (by omega)).1 hI (by omega) ⟨(zB_f (fun q => by have := q.2.1; omega)).symm, rfl⟩ (Nat.le_of_ble_eq_true rfl) (Nat.le_of_ble_eq_true rfl) dX3_allowMove_28 hlocks)
    · clear hfr
      obtain ⟨ej9, rfl⟩ := hp8
      have v10 : j9 < n 5 := v10
      refine lv_astore (lv' := [(4, .ref (am 5 j9)), (3, .null), (0, .ref (am 1 0)), (1, .int (iZ a)), (2, .int (iZ b))]) hx hb dX3_allowMove_11 hl (by decide) rfl (fun ls hl => ?_)
      refine lv_iload_n hx hb dX3_allowMove_13 rfl (lv_at hl 3 rfl) ?_
      refine lv_iload_n hx hb dX3_allowMove_14 rfl (lv_at hl 4 rfl) ?_
      refine z_icmp_eq (tgt := 27) hx hb dX3_allowMove_15 (by decide) (by omega) (by omega) (fun c12 => ?_) (fun c12 => ?_)
      · skip
        refine z_iconst hx hb dX3_allowMove_27 ?_
        exact (ze_i (u' := (n, am, S)) (z := 0) hx hb hr (iZ_narz (by omega) (by omega)).1 hI (by omega) ⟨(zB_f (fun q => by have := q.2.1; omega)).symm, rfl⟩ (Nat.le_of_ble_eq_true rfl) (Nat.le_of_ble_eq_true rfl) dX3_allowMove_28 hlocks)
      · skip
        refine lv_aload_nN hx hb dX3_allowMove_18 rfl (lv_at hl 1 rfl) ?_
        refine lv_ifnullN (tgt := 27) hx hb dX3_allowMove_19 (by decide) ?_
        refine z_iconst hx hb dX3_allowMove_27 ?_
        exact (ze_i (u' := (n, am, S)) (z := 0) hx hb hr (iZ_narz (by omega) (by omega)).1 hI (by omega) ⟨(zB_f (fun q => by have := q.2.1; omega)).symm, rfl⟩ (Nat.le_of_ble_eq_true rfl) (Nat.le_of_ble_eq_true rfl) dX3_allowMove_28 hlocks)
  · clear hfr
    obtain ⟨ej4, rfl⟩ := hp3
    have v5 : j4 < n 5 := v5
    refine lv_astore_n (lv' := [(3, .ref (am 5 j4)), (0, .ref (am 1 0)), (1, .int (iZ a)), (2, .int (iZ b))]) hx hb dX3_allowMove_5 rfl hl (by decide) rfl (fun ls hl => ?_)
    refine lv_aload_n hx hb dX3_allowMove_6 rfl (lv_at hl 1 rfl) ?_
    refine lv_iload_n hx hb dX3_allowMove_7 rfl (lv_at hl 3 rfl) ?_
    refine zc_q (zrV (As := [.int (iZ b)]) (rest := []) (κ := 1) (i := 0) ⟨hx, hb, hml, hown, hts⟩ (c_X3_laneAt l D cA n am S H.size b hW (by omega)) (cwV 1 hts gX3_allowMove_X3_laneAt rfl rfl rfl (by decide +kernel) ⟨Nat.le_of_ble_eq_true rfl, Nat.le_of_ble_eq_true rfl⟩) hK hI hW.1.2.1 rfl rfl rfl hl.1 rfl (Nat.le_of_ble_eq_true rfl) dX3_allowMove_8 ⟨Nat.le_of_ble_eq_true rfl, Nat.le_of_ble_eq_true rfl⟩) hI (fun u9 H locs hp15 hI hfr => ?_) (fun j16 u9 H locs v17 hp15 hI hfr => ?_)
    · clear hfr
      obtain ⟨ez13, rfl⟩ := hp15
      refine lv_astoreN (lv' := [(4, .null), (3, .ref (am 5 j4)), (0, .ref (am 1 0)), (1, .int (iZ a)), (2, .int (iZ b))]) hx hb dX3_allowMove_11 hl (by decide) rfl (fun ls hl => ?_)
      refine lv_iload_n hx hb dX3_allowMove_13 rfl (lv_at hl 3 rfl) ?_
      refine lv_iload_n hx hb dX3_allowMove_14 rfl (lv_at hl 4 rfl) ?_
      refine z_icmp_eq (tgt := 27) hx hb dX3_allowMove_15 (by decide) (by omega) (by omega) (fun c18 => ?_) (fun c18 => ?_)
      · skip
        refine z_iconst hx hb dX3_allowMove_27 ?_
        exact (ze_i (u' := (n, am, S)) (z := 0) hx hb hr (iZ_narz (by omega) (by omega)).1 hI (by omega) ⟨(zB_f (fun q => by have := q.2.2.1; omega)).symm, rfl⟩ (Nat.le_of_ble_eq_true rfl) (Nat.le_of_ble_eq_true rfl) dX3_allowMove_28 hlocks)
      · skip
        refine lv_aload_n hx hb dX3_allowMove_18 rfl (lv_at hl 1 rfl) ?_
        refine lv_ifnull hx hb dX3_allowMove_19 ?_
        refine lv_aloadN hx hb dX3_allowMove_22 (lv_at hl 0 rfl) ?_
        refine lv_ifnonnullN hx hb dX3_allowMove_24 ?_
        refine z_iconst hx hb dX3_allowMove_27 ?_
        exact (ze_i (u' := (n, am, S)) (z := 0) hx hb hr (iZ_narz (by omega) (by omega)).1 hI (by omega) ⟨(zB_f (fun q => by have := q.2.2.1; omega)).symm, rfl⟩ (Nat.le_of_ble_eq_true rfl) (Nat.le_of_ble_eq_true rfl) dX3_allowMove_28 hlocks)
    · clear hfr
      obtain ⟨ej16, rfl⟩ := hp15
      have v17 : j16 < n 5 := v17
      refine lv_astore (lv' := [(4, .ref (am 5 j16)), (3, .ref (am 5 j4)), (0, .ref (am 1 0)), (1, .int (iZ a)), (2, .int (iZ b))]) hx hb dX3_allowMove_11 hl (by decide) rfl (fun ls hl => ?_)
      refine lv_iload_n hx hb dX3_allowMove_13 rfl (lv_at hl 3 rfl) ?_
      refine lv_iload_n hx hb dX3_allowMove_14 rfl (lv_at hl 4 rfl) ?_
      refine z_icmp_eq (tgt := 27) hx hb dX3_allowMove_15 (by decide) (by omega) (by omega) (fun c19 => ?_) (fun c19 => ?_)
      · skip
        refine z_iconst hx hb dX3_allowMove_27 ?_
        exact (ze_i (u' := (n, am, S)) (z := 0) hx hb hr (iZ_narz (by omega) (by omega)).1 hI (by omega) ⟨(zB_f (fun q => q.1 (by omega))).symm, rfl⟩ (Nat.le_of_ble_eq_true rfl) (Nat.le_of_ble_eq_true rfl) dX3_allowMove_28 hlocks)
      · skip
        refine lv_aload_n hx hb dX3_allowMove_18 rfl (lv_at hl 1 rfl) ?_
        refine lv_ifnull hx hb dX3_allowMove_19 ?_
        refine lv_aload hx hb dX3_allowMove_22 (lv_at hl 0 rfl) ?_
        refine lv_ifnonnull (tgt := 29) hx hb dX3_allowMove_24 (by decide) ?_
        refine lv_aload_n hx hb dX3_allowMove_29 rfl (lv_at hl 1 rfl) ?_
        refine z_iconst hx hb dX3_allowMove_30 ?_
        refine zc_q (zrV (As := [.int (iZ 0)]) (rest := []) (κ := 5) (i := j4) ⟨hx, hb, hml, hown, hts⟩ (c_X2_fromExit l D cA n am S H.size j4 0 hW v5 (by omega)) (cwV 1 hts gX3_allowMove_X2_fromExit rfl rfl rfl (by decide +kernel) ⟨Nat.le_of_ble_eq_true rfl, Nat.le_of_ble_eq_true rfl⟩) hK hI v5 rfl rfl rfl hl.1 rfl (Nat.le_of_ble_eq_true rfl) dX3_allowMove_31 ⟨Nat.le_of_ble_eq_true rfl, Nat.le_of_ble_eq_true rfl⟩) hI (fun u9 H locs hp22 hI hfr => ?_) (fun j23 u9 H locs v24 hp22 hI hfr => ?_)
        · clear hfr
          obtain ⟨ez20, rfl⟩ := hp22
          refine lv_astoreN (lv' := [(5, .null), (4, .ref (am 5 j16)), (3, .ref (am 5 j4)), (0, .ref (am 1 0)), (1, .int (iZ a)), (2, .int (iZ b))]) hx hb dX3_allowMove_34 hl (by decide) rfl (fun ls hl => ?_)
          refine lv_aloadN hx hb dX3_allowMove_36 (lv_at hl 0 rfl) ?_
          refine lv_ifnullN (tgt := 55) hx hb dX3_allowMove_38 (by decide) ?_
          refine z_iconst hx hb dX3_allowMove_55 ?_
          exact (ze_i (u' := (n, am, S)) (z := 0) hx hb hr (iZ_narz (by omega) (by omega)).1 hI (by omega) ⟨(zB_f (yAllow_f3 ej4 ez20)).symm, rfl⟩ (Nat.le_of_ble_eq_true rfl) (Nat.le_of_ble_eq_true rfl) dX3_allowMove_56 hlocks)
        · clear hfr
          obtain ⟨ej23, rfl⟩ := hp22
          have v24 : j23 < n 8 := v24
          refine lv_astore (lv' := [(5, .ref (am 8 j23)), (4, .ref (am 5 j16)), (3, .ref (am 5 j4)), (0, .ref (am 1 0)), (1, .int (iZ a)), (2, .int (iZ b))]) hx hb dX3_allowMove_34 hl (by decide) rfl (fun ls hl => ?_)
          refine lv_aload hx hb dX3_allowMove_36 (lv_at hl 0 rfl) ?_
          refine lv_ifnull hx hb dX3_allowMove_38 ?_
          refine lv_aload hx hb dX3_allowMove_41 (lv_at hl 1 rfl) ?_
          refine lv_aload hx hb dX3_allowMove_43 (lv_at hl 0 rfl) ?_
          refine zc_i (zrV (As := [.ref (am 8 j23)]) (rest := []) (κ := 5) (i := j16) ⟨hx, hb, hml, hown, hts⟩ (c_X2_canTake l D cA n am S H.size j16 j23 v17 v24) (cwV 1 hts gX3_allowMove_X2_canTake rfl rfl rfl (by decide +kernel) ⟨Nat.le_of_ble_eq_true rfl, Nat.le_of_ble_eq_true rfl⟩) hK hI v17 rfl rfl rfl hl.1 rfl (Nat.le_of_ble_eq_true rfl) dX3_allowMove_45 ⟨Nat.le_of_ble_eq_true rfl, Nat.le_of_ble_eq_true rfl⟩) hI (fun z25 u9 H locs hz26 hp27 hI hfr => ?_)
          clear hfr
          obtain ⟨rfl, rfl⟩ := hp27
          refine z_if_eq (tgt := 55) hx hb dX3_allowMove_48 (by decide) (by omega) (fun c28 => ?_) (fun c28 => ?_)
          · skip
            have c28 := zB_0 c28
            have c_take := c28
            refine z_iconst hx hb dX3_allowMove_55 ?_
            exact (ze_i (u' := (n, am, S)) (z := 0) hx hb hr (iZ_narz (by omega) (by omega)).1 hI (by omega) ⟨(zB_f (yAllow_f4 ej4 ej16 ej23 c_take)).symm, rfl⟩ (Nat.le_of_ble_eq_true rfl) (Nat.le_of_ble_eq_true rfl) dX3_allowMove_56 hlocks)
          · skip
            have c28 := zB_1 c28
            have c_take := c28
            refine z_iconst hx hb dX3_allowMove_51 ?_
            refine lv_goto (tgt := 56) hx hb dX3_allowMove_52 (by decide) ?_
            exact (ze_i (u' := (n, am, S)) (z := 1) hx hb hr (iZ_narz (by omega) (by omega)).1 hI (by omega) ⟨(zB_t (yAllow_t (by omega) ej4 ej16 ej23 c_take)).symm, rfl⟩ (Nat.le_of_ble_eq_true rfl) (Nat.le_of_ble_eq_true rfl) dX3_allowMove_56 hlocks)
set_option maxHeartbeats 4000000 in
set_option maxRecDepth 100000 in
theorem c_X3_moveNearest (l : Launch) (D : va_G) (cA : Nat → ClassId) (n : Nat → Nat) (am : ts_Am) (S : ts_St) (sz : Nat) (a b : Int) (hW : cW n S) (ha : iR a) (hb1 : iR b) : Met l yX3_moveNearest wsX3_moveNearest ({ frames := 2, cells := 0, slots := 0, locals := 42 } : Room) (va_Pc [.ref (am 1 0), .int (iZ a), .int (iZ b)] (zP TX D cA (n, am, S) sz)) (zQv TX D cA (n, am, S) sz (fun u => u = (n, am, yMove S a b))) 0 0 (ts_A (n, am, S) sz) := by
  refine zM_of (by decide) rfl (Nat.le_of_ble_eq_true rfl) ?_
  intro p e s m below meth c hx hb hr hts hown hlocks hml hname hK hsz H locs hI ls hl
  subst hsz
  have hown : s.vm.findClass RX3 = some m.cls := hown
  have hl : lv_has ls 6 [(0, .ref (am 1 0)), (1, .int (iZ a)), (2, .int (iZ b))] := hl
  refine lv_aload_n hx hb dX3_moveNearest_0 rfl (lv_at hl 0 rfl) ?_
  refine lv_iload_n hx hb dX3_moveNearest_1 rfl (lv_at hl 1 rfl) ?_
  refine zc_q (zrV (As := [.int (iZ a)]) (rest := []) (κ := 1) (i := 0) ⟨hx, hb, hml, hown, hts⟩ (c_X3_laneAt l D cA n am S H.size a hW (by omega)) (cwV 1 hts gX3_moveNearest_X3_laneAt rfl rfl rfl (by decide +kernel) ⟨Nat.le_of_ble_eq_true rfl, Nat.le_of_ble_eq_true rfl⟩) hK hI hW.1.2.1 rfl rfl rfl hl.1 rfl (Nat.le_of_ble_eq_true rfl) dX3_moveNearest_2 ⟨Nat.le_of_ble_eq_true rfl, Nat.le_of_ble_eq_true rfl⟩) hI (fun u9 H locs hp3 hI hfr => ?_) (fun j4 u9 H locs v5 hp3 hI hfr => ?_)
  · clear hfr
    obtain ⟨ez1, rfl⟩ := hp3
    refine lv_astore_nN (lv' := [(3, .null), (0, .ref (am 1 0)), (1, .int (iZ a)), (2, .int (iZ b))]) hx hb dX3_moveNearest_5 rfl hl (by decide) rfl (fun ls hl => ?_)
    refine lv_aload_n hx hb dX3_moveNearest_6 rfl (lv_at hl 1 rfl) ?_
    refine lv_iload_n hx hb dX3_moveNearest_7 rfl (lv_at hl 3 rfl) ?_
    refine zc_q (zrV (As := [.int (iZ b)]) (rest := []) (κ := 1) (i := 0) ⟨hx, hb, hml, hown, hts⟩ (c_X3_laneAt l D cA n am S H.size b hW (by omega)) (cwV 1 hts gX3_moveNearest_X3_laneAt rfl rfl rfl (by decide +kernel) ⟨Nat.le_of_ble_eq_true rfl, Nat.le_of_ble_eq_true rfl⟩) hK hI hW.1.2.1 rfl rfl rfl hl.1 rfl (Nat.le_of_ble_eq_true rfl) dX3_moveNearest_8 ⟨Nat.le_of_ble_eq_true rfl, Nat.le_of_ble_eq_true rfl⟩) hI (fun u9 H locs hp8 hI hfr => ?_) (fun j9 u9 H locs v10 hp8 hI hfr => ?_)
    · clear hfr
      obtain ⟨ez6, rfl⟩ := hp8
      refine lv_astoreN (lv' := [(4, .null), (3, .null), (0, .ref (am 1 0)), (1, .int (iZ a)), (2, .int (iZ b))]) hx hb dX3_moveNearest_11 hl (by decide) rfl (fun ls hl => ?_)
      refine lv_aload_nN hx hb dX3_moveNearest_13 rfl (lv_at hl 1 rfl) ?_
      refine lv_ifnullN (tgt := 40) hx hb dX3_moveNearest_14 (by decide) ?_
      exact (ze_v (u' := (n, am, S)) hx hb hr hI (by rw [yMove_f (by omega)]) (Nat.le_of_ble_eq_true rfl) (Nat.le_of_ble_eq_true rfl) dX3_moveNearest_40 hlocks)
    · clear hfr
      obtain ⟨ej9, rfl⟩ := hp8
      have v10 : j9 < n 5 := v10
      refine lv_astore (lv' := [(4, .ref (am 5 j9)), (3, .null), (0, .ref (am 1 0)), (1, .int (iZ a)), (2, .int (iZ b))]) hx hb dX3_moveNearest_11 hl (by decide) rfl (fun ls hl => ?_)
      refine lv_aload_nN hx hb dX3_moveNearest_13 rfl (lv_at hl 1 rfl) ?_
      refine lv_ifnullN (tgt := 40) hx hb dX3_moveNearest_14 (by decide) ?_
      exact (ze_v (u' := (n, am, S)) hx hb hr hI (by rw [yMove_f (by omega)]) (Nat.le_of_ble_eq_true rfl) (Nat.le_of_ble_eq_true rfl) dX3_moveNearest_40 hlocks)
  · clear hfr
    obtain ⟨ej4, rfl⟩ := hp3
    have v5 : j4 < n 5 := v5
    refine lv_astore_n (lv' := [(3, .ref (am 5 j4)), (0, .ref (am 1 0)), (1, .int (iZ a)), (2, .int (iZ b))]) hx hb dX3_moveNearest_5 rfl hl (by decide) rfl (fun ls hl => ?_)
    refine lv_aload_n hx hb dX3_moveNearest_6 rfl (lv_at hl 1 rfl) ?_
    refine lv_iload_n hx hb dX3_moveNearest_7 rfl (lv_at hl 3 rfl) ?_
    refine zc_q (zrV (As := [.int (iZ b)]) (rest := []) (κ := 1) (i := 0) ⟨hx, hb, hml, hown, hts⟩ (c_X3_laneAt l D cA n am S H.size b hW (by omega)) (cwV 1 hts gX3_moveNearest_X3_laneAt rfl rfl rfl (by decide +kernel) ⟨Nat.le_of_ble_eq_true rfl, Nat.le_of_ble_eq_true rfl⟩) hK hI hW.1.2.1 rfl rfl rfl hl.1 rfl (Nat.le_of_ble_eq_true rfl) dX3_moveNearest_8 ⟨Nat.le_of_ble_eq_true rfl, Nat.le_of_ble_eq_true rfl⟩) hI (fun u9 H locs hp13 hI hfr => ?_) (fun j14 u9 H locs v15 hp13 hI hfr => ?_)
    · clear hfr
      obtain ⟨ez11, rfl⟩ := hp13
      refine lv_astoreN (lv' := [(4, .null), (3, .ref (am 5 j4)), (0, .ref (am 1 0)), (1, .int (iZ a)), (2, .int (iZ b))]) hx hb dX3_moveNearest_11 hl (by decide) rfl (fun ls hl => ?_)
      refine lv_aload_n hx hb dX3_moveNearest_13 rfl (lv_at hl 1 rfl) ?_
      refine lv_ifnull hx hb dX3_moveNearest_14 ?_
      refine lv_aloadN hx hb dX3_moveNearest_17 (lv_at hl 0 rfl) ?_
      refine lv_ifnullN (tgt := 40) hx hb dX3_moveNearest_19 (by decide) ?_
      exact (ze_v (u' := (n, am, S)) hx hb hr hI (by rw [yMove_f (by omega)]) (Nat.le_of_ble_eq_true rfl) (Nat.le_of_ble_eq_true rfl) dX3_moveNearest_40 hlocks)
    · clear hfr
      obtain ⟨ej14, rfl⟩ := hp13
      have v15 : j14 < n 5 := v15
      refine lv_astore (lv' := [(4, .ref (am 5 j14)), (3, .ref (am 5 j4)), (0, .ref (am 1 0)), (1, .int (iZ a)), (2, .int (iZ b))]) hx hb dX3_moveNearest_11 hl (by decide) rfl (fun ls hl => ?_)
      refine lv_aload_n hx hb dX3_moveNearest_13 rfl (lv_at hl 1 rfl) ?_
      refine lv_ifnull hx hb dX3_moveNearest_14 ?_
      refine lv_aload hx hb dX3_moveNearest_17 (lv_at hl 0 rfl) ?_
      refine lv_ifnull hx hb dX3_moveNearest_19 ?_
      refine lv_aload_n hx hb dX3_moveNearest_22 rfl (lv_at hl 1 rfl) ?_
      refine zc_q (zrV (As := []) (rest := []) (κ := 5) (i := j4) ⟨hx, hb, hml, hown, hts⟩ (c_X2_takeOut l D cA n am S H.size j4 hW v5) (cwV 0 hts gX3_moveNearest_X2_takeOut rfl rfl rfl (by decide +kernel) ⟨Nat.le_of_ble_eq_true rfl, Nat.le_of_ble_eq_true rfl⟩) hK hI v5 rfl rfl rfl hl.1 rfl (Nat.le_of_ble_eq_true rfl) dX3_moveNearest_23 ⟨Nat.le_of_ble_eq_true rfl, Nat.le_of_ble_eq_true rfl⟩) hI (fun u9 H locs hp18 hI hfr => ?_) (fun j19 u9 H locs v20 hp18 hI hfr => ?_)
      · clear hfr
        obtain ⟨ez16, rfl⟩ := hp18
        obtain ⟨S21, eS21⟩ : ∃ z, z = yTakeOut S j4 := ⟨_, rfl⟩
        rw [← eS21] at hI
        have hW : cW n S21 := by rw [eS21]; exact yTakeOut_W hW
        refine lv_astoreN (lv' := [(5, .null), (4, .ref (am 5 j14)), (3, .ref (am 5 j4)), (0, .ref (am 1 0)), (1, .int (iZ a)), (2, .int (iZ b))]) hx hb dX3_moveNearest_26 hl (by decide) rfl (fun ls hl => ?_)
        refine lv_aloadN hx hb dX3_moveNearest_28 (lv_at hl 0 rfl) ?_
        refine lv_ifnullN (tgt := 40) hx hb dX3_moveNearest_30 (by decide) ?_
        exact (ze_v (u' := (n, am, S21)) hx hb hr hI (by rw [eS21, yMove_n ej4 ez16]) (Nat.le_of_ble_eq_true rfl) (Nat.le_of_ble_eq_true rfl) dX3_moveNearest_40 hlocks)
      · clear hfr
        obtain ⟨ej19, rfl⟩ := hp18
        have v20 : j19 < n 8 := v20
        obtain ⟨S22, eS22⟩ : ∃ z, z = yTakeOut S j4 := ⟨_, rfl⟩
        rw [← eS22] at hI
        have hW : cW n S22 := by rw [eS22]; exact yTakeOut_W hW
        refine lv_astore (lv' := [(5, .ref (am 8 j19)), (4, .ref (am 5 j14)), (3, .ref (am 5 j4)), (0, .ref (am 1 0)), (1, .int (iZ a)), (2, .int (iZ b))]) hx hb dX3_moveNearest_26 hl (by decide) rfl (fun ls hl => ?_)
        refine lv_aload hx hb dX3_moveNearest_28 (lv_at hl 0 rfl) ?_
        refine lv_ifnull hx hb dX3_moveNearest_30 ?_
        refine lv_aload hx hb dX3_moveNearest_33 (lv_at hl 1 rfl) ?_
        refine lv_aload hx hb dX3_moveNearest_35 (lv_at hl 0 rfl) ?_
        refine zc_v (zrV (As := [.ref (am 8 j19)]) (rest := []) (κ := 5) (i := j14) ⟨hx, hb, hml, hown, hts⟩ (c_X2_bringIn l D cA n am S22 H.size j14 j19 hW v15 v20) (cwV 1 hts gX3_moveNearest_X2_bringIn rfl rfl rfl (by decide +kernel) ⟨Nat.le_of_ble_eq_true rfl, Nat.le_of_ble_eq_true rfl⟩) hK hI v15 rfl rfl rfl hl.1 rfl (Nat.le_of_ble_eq_true rfl) dX3_moveNearest_37 ⟨Nat.le_of_ble_eq_true rfl, Nat.le_of_ble_eq_true rfl⟩) hI (fun u9 H locs hp23 hI hfr => ?_)
        clear hfr
        obtain rfl := hp23
        obtain ⟨S24, eS24⟩ : ∃ z, z = yBring S22 j14 j19 := ⟨_, rfl⟩
        rw [← eS24] at hI
        have hW : cW n S24 := by rw [eS24]; exact yBring_W hW
        exact (ze_v (u' := (n, am, S24)) hx hb hr hI (by rw [eS24, eS22, yMove_3 ej4 ej14 ej19]) (Nat.le_of_ble_eq_true rfl) (Nat.le_of_ble_eq_true rfl) dX3_moveNearest_40 hlocks)
end
section
/-! The yard's own helpers. -/
def yPunc (S : ts_St) (j : Nat) : Int := if S 8 j 5 - S 8 j 1 > S 0 0 5 then 108 else if -(S 8 j 5 - S 8 j 1) > S 0 0 5 then 101 else 111
def yWait (S : ts_St) (j : Nat) : Int := max 0 ((if S 8 j 4 = 121 then S 0 0 10 else S 8 j 6) - max (S 8 j 5) (S 8 j 1))
def yPaid (S : ts_St) (j : Nat) : Int := max 0 (yWait S j - S 0 0 6)
def yCharge (S : ts_St) (j : Nat) : Int := if yPunc S j = 108 then 0 else min (yPaid S j) (S 0 0 8) * S 0 0 7 + (yPaid S j - min (yPaid S j) (S 0 0 8)) * S 0 0 9
def yRate (S : ts_St) (x : Int) : Int := if x < S 0 0 6 then 0 else if x < S 0 0 6 + S 0 0 8 then S 0 0 7 else S 0 0 9
/-- the numbers' ranges -/
def cR (n : Nat → Nat) (S : ts_St) : Prop := ((0 ≤ S 0 0 5 ∧ S 0 0 5 ≤ 9) ∧ (0 ≤ S 0 0 6 ∧ S 0 0 6 ≤ 24) ∧ (0 ≤ S 0 0 7 ∧ S 0 0 7 ≤ 99) ∧ (0 ≤ S 0 0 8 ∧ S 0 0 8 ≤ 24) ∧ (0 ≤ S 0 0 9 ∧ S 0 0 9 ≤ 99) ∧ (0 ≤ S 0 0 10 ∧ S 0 0 10 ≤ 100000) ∧ (0 ≤ S 0 0 11 ∧ S 0 0 11 ≤ 100000)) ∧ ∀ j, j < n 8 → (0 ≤ S 8 j 1 ∧ S 8 j 1 ≤ 999) ∧ (0 ≤ S 8 j 2 ∧ S 8 j 2 < 65536) ∧ (1 ≤ S 8 j 3 ∧ S 8 j 3 ≤ 9) ∧ (0 ≤ S 8 j 4 ∧ S 8 j 4 < 65536) ∧ (0 ≤ S 8 j 5 ∧ S 8 j 5 ≤ 100000) ∧ (0 ≤ S 8 j 6 ∧ S 8 j 6 ≤ 100000)
theorem yWait_R {n : Nat → Nat} {S : ts_St} (h : cR n S) {j : Nat} (hj : j < n 8) : 0 ≤ yWait S j ∧ yWait S j ≤ 100000 := by
  have h1 := h.1
  have h2 := h.2 j hj
  unfold yWait
  split <;> omega
theorem mul_R {a b A B : Int} (ha : 0 ≤ a) (ha2 : a ≤ A) (hb : 0 ≤ b) (hb2 : b ≤ B) : 0 ≤ a * b ∧ a * b ≤ A * B := ⟨Int.mul_nonneg ha hb, Int.mul_le_mul ha2 hb2 hb (Int.le_trans ha ha2)⟩
theorem yChg_R {n : Nat → Nat} {S : ts_St} (h : cR n S) {j : Nat} (hj : j < n 8) : 0 ≤ min (yPaid S j) (S 0 0 8) * S 0 0 7 + (yPaid S j - min (yPaid S j) (S 0 0 8)) * S 0 0 9 ∧ min (yPaid S j) (S 0 0 8) * S 0 0 7 + (yPaid S j - min (yPaid S j) (S 0 0 8)) * S 0 0 9 ≤ 20000000 := by
  have h1 := h.1
  have h2 := yWait_R h hj
  have hp : 0 ≤ yPaid S j ∧ yPaid S j ≤ 100000 := by unfold yPaid; omega
  have e1 := mul_R (a := min (yPaid S j) (S 0 0 8)) (b := S 0 0 7) (A := 100000) (B := 99) (by omega) (by omega) (by omega) (by omega)
  have e2 := mul_R (a := yPaid S j - min (yPaid S j) (S 0 0 8)) (b := S 0 0 9) (A := 100000) (B := 99) (by omega) (by omega) (by omega) (by omega)
  omega
theorem yCharge_R {n : Nat → Nat} {S : ts_St} (h : cR n S) {j : Nat} (hj : j < n 8) : 0 ≤ yCharge S j ∧ yCharge S j ≤ 20000000 := by
  unfold yCharge
  split
  · omega
  · exact yChg_R h hj
theorem yPunc_R (S : ts_St) (j : Nat) : 101 ≤ yPunc S j ∧ yPunc S j ≤ 111 := by
  unfold yPunc
  split
  · omega
  · split <;> omega

set_option maxHeartbeats 4000000 in
set_option maxRecDepth 100000 in
theorem c_X4_appointmentOrThrow (l : Launch) (hfl : l.stackTraces = false) (D : va_G) (cA : Nat → ClassId) (n : Nat → Nat) (am : ts_Am) (S : ts_St) (sz : Nat) (x : Int) (hW : cW n S) (hx0 : iR x) : vx_Met l yX4_appointmentOrThrow wsX4_appointmentOrThrow ({ frames := 6, cells := 1, slots := 6, locals := 90 } : Room) (va_Pc [.ref (am 0 0), .int (iZ x)] (zPX TX D cA (n, am, S) sz)) (zQq TX D cA (n, am, S) sz 8 (fun z u => (0 ≤ z ∧ z = x ∧ x < (n 8 : Int)) ∧ u = (n, am, S))) (zXX TX D cA (n, am, S) sz (fun E => E = xN_NSE ∧ ¬ (0 ≤ x ∧ x < (n 8 : Int)))) 1 6 (ts_A (n, am, S) sz) := by
  refine zMx_of (by decide) rfl (Nat.le_of_ble_eq_true rfl) ?_
  intro p e s m below meth c hx hb hr hts hown hlocks hml hex hK hG hsz H locs hI ls hl
  subst hsz
  have hown : s.vm.findClass RX4 = some m.cls := hown
  have hl : lv_has ls 3 [(0, .ref (am 0 0)), (1, .int (iZ x))] := hl
  have f24 := hts (.fieldLink RX4 24 "DockyardSlots" "appointments" "[LDockyardSlots$Appointment;") (by decide +kernel)
  have f86 := hts (.fieldLink RX4 86 "DockyardSlots" "appointmentCount" "I") (by decide +kernel)
  have LX4 : ∀ w ∈ wsX40, w.before [.ref (am 0 0), .int (iZ x)].toArray s = true := fun w h => hts w (List.mem_cons_of_mem _ (List.mem_append_left _ (List.mem_append_right _ h)))
  have hcn := hW.cn
  have hlim := hW.lim
  refine lv_iload_n hx hb dX4_appointmentOrThrow_0 rfl (lv_at hl 1 rfl) ?_
  refine z_if_lt (tgt := 21) hx hb dX4_appointmentOrThrow_1 (by decide) (by omega) (fun c1 => ?_) (fun c1 => ?_)
  · skip
    exact zx_throw (text := "there is no such appointment") hx hb hfl hown hG hI xC_NSE xF_NSE (hts _ (by decide +kernel)) (hts _ (by decide +kernel)) (fun w h => hts w (List.mem_cons_of_mem _ (List.mem_append_right _ h))) xA_NSE xO_NSE (by decide +kernel) (by rw [hml]; exact hl.1) dX4_appointmentOrThrow_21 dX4_appointmentOrThrow_24 dX4_appointmentOrThrow_25 dX4_appointmentOrThrow_27 dX4_appointmentOrThrow_30 hex (Nat.le_of_ble_eq_true rfl) (Nat.le_of_ble_eq_true rfl) (Nat.le_of_ble_eq_true rfl) (Nat.le_of_ble_eq_true rfl) hlocks ⟨rfl, by omega⟩ (Nat.le_of_ble_eq_true rfl) (Nat.le_of_ble_eq_true rfl)
  · skip
    refine lv_iload_n hx hb dX4_appointmentOrThrow_4 rfl (lv_at hl 1 rfl) ?_
    refine lv_aload_n hx hb dX4_appointmentOrThrow_5 rfl (lv_at hl 0 rfl) ?_
    refine zg_i (κ := 0) (i := 0) (k := 4) hx hb LX4 hown hK hI hW.1.1 rfl rfl (by decide) rfl f86 (fun _ h9 => h9) dX4_appointmentOrThrow_6 rfl (fun b2 => ?_)
    refine z_icmp_ge (tgt := 21) hx hb dX4_appointmentOrThrow_9 (by decide) (by omega) (by omega) (fun c3 => ?_) (fun c3 => ?_)
    · skip
      exact zx_throw (text := "there is no such appointment") hx hb hfl hown hG hI xC_NSE xF_NSE (hts _ (by decide +kernel)) (hts _ (by decide +kernel)) (fun w h => hts w (List.mem_cons_of_mem _ (List.mem_append_right _ h))) xA_NSE xO_NSE (by decide +kernel) (by rw [hml]; exact hl.1) dX4_appointmentOrThrow_21 dX4_appointmentOrThrow_24 dX4_appointmentOrThrow_25 dX4_appointmentOrThrow_27 dX4_appointmentOrThrow_30 hex (Nat.le_of_ble_eq_true rfl) (Nat.le_of_ble_eq_true rfl) (Nat.le_of_ble_eq_true rfl) (Nat.le_of_ble_eq_true rfl) hlocks ⟨rfl, by omega⟩ (Nat.le_of_ble_eq_true rfl) (Nat.le_of_ble_eq_true rfl)
    · skip
      refine lv_iload_n hx hb dX4_appointmentOrThrow_12 rfl (lv_at hl 1 rfl) ?_
      refine lv_aload_n hx hb dX4_appointmentOrThrow_13 rfl (lv_at hl 0 rfl) ?_
      refine zg_r (κ := 0) (i := 0) (k := 3) (t := 4) (j := 0) hx hb LX4 hown hK hI hW.1.1 rfl rfl (by decide) rfl f24 (fun _ h9 => h9) dX4_appointmentOrThrow_14 hW.2.1.2.2.1 (fun v4 => ?_)
      refine zal hx hb hK hI v4 rfl dX4_appointmentOrThrow_17 ?_
      refine z_icmp_lt (tgt := 31) hx hb dX4_appointmentOrThrow_18 (by decide) (by omega) (by omega) (fun c5 => ?_) (fun c5 => ?_)
      · skip
        refine lv_aload_n hx hb dX4_appointmentOrThrow_31 rfl (lv_at hl 0 rfl) ?_
        refine zg_r (κ := 0) (i := 0) (k := 3) (t := 4) (j := 0) hx hb LX4 hown hK hI hW.1.1 rfl rfl (by decide) rfl f24 (fun _ h9 => h9) dX4_appointmentOrThrow_32 hW.2.1.2.2.1 (fun v6 => ?_)
        refine lv_iload_n hx hb dX4_appointmentOrThrow_35 rfl (lv_at hl 1 rfl) ?_
        refine za_r (κ := 4) (i := 0) (t := 8) (k := x.toNat) hx hb hK hI v6 rfl (by omega) (by omega) (by omega) dX4_appointmentOrThrow_36 (hW.aa (by omega)) (fun v7 => ?_)
        refine lv_astore_n (lv' := [(2, .ref (am 8 x.toNat)), (0, .ref (am 0 0)), (1, .int (iZ x))]) hx hb dX4_appointmentOrThrow_37 rfl hl (by decide) rfl (fun ls hl => ?_)
        refine lv_aload_n hx hb dX4_appointmentOrThrow_38 rfl (lv_at hl 0 rfl) ?_
        refine lv_ifnonnull (tgt := 52) hx hb dX4_appointmentOrThrow_39 (by decide) ?_
        refine lv_aload_n hx hb dX4_appointmentOrThrow_52 rfl (lv_at hl 0 rfl) ?_
        exact vx_ret (ze_q (u' := (n, am, S)) (z := (x.toNat : Int)) hx hb hr (Or.inl ⟨_, rfl⟩) hI (ts_V_ref _ _ _).symm (by omega) (Int.ofNat_lt.mpr v7) ⟨⟨by omega, by omega, by omega⟩, rfl⟩ (Nat.le_of_ble_eq_true rfl) (Nat.le_of_ble_eq_true rfl) dX4_appointmentOrThrow_53 hlocks)
      · skip
        exact zx_throw (text := "there is no such appointment") hx hb hfl hown hG hI xC_NSE xF_NSE (hts _ (by decide +kernel)) (hts _ (by decide +kernel)) (fun w h => hts w (List.mem_cons_of_mem _ (List.mem_append_right _ h))) xA_NSE xO_NSE (by decide +kernel) (by rw [hml]; exact hl.1) dX4_appointmentOrThrow_21 dX4_appointmentOrThrow_24 dX4_appointmentOrThrow_25 dX4_appointmentOrThrow_27 dX4_appointmentOrThrow_30 hex (Nat.le_of_ble_eq_true rfl) (Nat.le_of_ble_eq_true rfl) (Nat.le_of_ble_eq_true rfl) (Nat.le_of_ble_eq_true rfl) hlocks ⟨rfl, by omega⟩ (Nat.le_of_ble_eq_true rfl) (Nat.le_of_ble_eq_true rfl)
set_option maxHeartbeats 4000000 in
set_option maxRecDepth 100000 in
theorem c_X4_arrivedOrThrow (l : Launch) (hfl : l.stackTraces = false) (D : va_G) (cA : Nat → ClassId) (n : Nat → Nat) (am : ts_Am) (S : ts_St) (sz : Nat) (x : Int) (hW : cW n S) (hx0 : iR x) : vx_Met l yX4_arrivedOrThrow wsX4_arrivedOrThrow ({ frames := 7, cells := 2, slots := 12, locals := 112 } : Room) (va_Pc [.ref (am 0 0), .int (iZ x)] (zPX TX D cA (n, am, S) sz)) (zQq TX D cA (n, am, S) sz 8 (fun z u => (0 ≤ z ∧ z = x ∧ x < (n 8 : Int) ∧ yCame S x.toNat) ∧ u = (n, am, S))) (zXX TX D cA (n, am, S) sz (fun E => (E = xN_NSE ∧ ¬ (0 ≤ x ∧ x < (n 8 : Int))) ∨ (E = xN_ISE ∧ (0 ≤ x ∧ x < (n 8 : Int)) ∧ ¬ yCame S x.toNat))) 2 12 (ts_A (n, am, S) sz) := by
  refine zMx_of (by decide) rfl (Nat.le_of_ble_eq_true rfl) ?_
  intro p e s m below meth c hx hb hr hts hown hlocks hml hex hK hG hsz H locs hI ls hl
  subst hsz
  have hown : s.vm.findClass RX4 = some m.cls := hown
  have hl : lv_has ls 3 [(0, .ref (am 0 0)), (1, .int (iZ x))] := hl
  have hcn := hW.cn
  have hlim := hW.lim
  refine lv_aload_n hx hb dX4_arrivedOrThrow_0 rfl (lv_at hl 0 rfl) ?_
  refine lv_iload_n hx hb dX4_arrivedOrThrow_1 rfl (lv_at hl 1 rfl) ?_
  refine zxc_q (zxV (As := [.int (iZ x)]) (rest := []) (κ := 0) (i := 0) ⟨hx, hb, hml, hown, hts⟩ (c_X4_appointmentOrThrow l hfl D cA n am S H.size x hW (by omega)) (cwV 1 hts gX4_arrivedOrThrow_X4_appointmentOrThrow rfl rfl rfl (by decide +kernel) ⟨Nat.le_of_ble_eq_true rfl, Nat.le_of_ble_eq_true rfl⟩) hK hI hG hW.1.1 rfl rfl rfl hl.1 rfl (Nat.le_of_ble_eq_true rfl) dX4_arrivedOrThrow_2 ⟨Nat.le_of_ble_eq_true rfl, Nat.le_of_ble_eq_true rfl⟩) hI hex hlocks (fun E q => Or.inl q) (Nat.le_of_ble_eq_true rfl) (Nat.le_of_ble_eq_true rfl) (fun z u q => q.1.1) (fun j1 u9 H locs v2 hp3 hI => ?_)
  obtain ⟨⟨q4, q5, q6⟩, rfl⟩ := hp3
  obtain rfl : j1 = x.toNat := by omega
  have v2 : x.toNat < n 8 := v2
  refine lv_astore_n (lv' := [(2, .ref (am 8 x.toNat)), (0, .ref (am 0 0)), (1, .int (iZ x))]) hx hb dX4_arrivedOrThrow_5 rfl hl (by decide) rfl (fun ls hl => ?_)
  refine lv_aload_n hx hb dX4_arrivedOrThrow_6 rfl (lv_at hl 0 rfl) ?_
  refine zc_i (zrV (As := []) (rest := []) (κ := 8) (i := x.toNat) ⟨hx, hb, hml, hown, hts⟩ (c_X0_hasArrived l D cA n am S H.size x.toNat v2) (cwV 0 hts gX4_arrivedOrThrow_X0_hasArrived rfl rfl rfl (by decide +kernel) ⟨Nat.le_of_ble_eq_true rfl, Nat.le_of_ble_eq_true rfl⟩) hK hI v2 rfl rfl rfl hl.1 rfl (Nat.le_of_ble_eq_true rfl) dX4_arrivedOrThrow_7 ⟨Nat.le_of_ble_eq_true rfl, Nat.le_of_ble_eq_true rfl⟩) hI (fun z7 u9 H locs hz8 hp9 hI hfr => ?_)
  clear hfr
  obtain ⟨rfl, rfl⟩ := hp9
  refine z_if_ne (tgt := 23) hx hb dX4_arrivedOrThrow_10 (by decide) (by omega) (fun c10 => ?_) (fun c10 => ?_)
  · skip
    have c10 := zB_1 c10
    refine lv_aload_n hx hb dX4_arrivedOrThrow_23 rfl (lv_at hl 0 rfl) ?_
    exact vx_ret (ze_q (u' := (n, am, S)) (z := (x.toNat : Int)) hx hb hr (Or.inl ⟨_, rfl⟩) hI (ts_V_ref _ _ _).symm (by omega) (Int.ofNat_lt.mpr v2) ⟨⟨by omega, by omega, by omega, c10⟩, rfl⟩ (Nat.le_of_ble_eq_true rfl) (Nat.le_of_ble_eq_true rfl) dX4_arrivedOrThrow_24 hlocks)
  · skip
    have c10 := zB_0 c10
    exact zx_throw (text := "the trailer has not arrived") hx hb hfl hown hG hI xC_ISE xF_ISE (hts _ (by decide +kernel)) (hts _ (by decide +kernel)) (fun w h => hts w (List.mem_cons_of_mem _ (List.mem_append_left _ (List.mem_append_right _ h)))) xA_ISE xO_ISE (by decide +kernel) (by rw [hml]; exact hl.1) dX4_arrivedOrThrow_13 dX4_arrivedOrThrow_16 dX4_arrivedOrThrow_17 dX4_arrivedOrThrow_19 dX4_arrivedOrThrow_22 hex (Nat.le_of_ble_eq_true rfl) (Nat.le_of_ble_eq_true rfl) (Nat.le_of_ble_eq_true rfl) (Nat.le_of_ble_eq_true rfl) hlocks (Or.inr ⟨rfl, by omega, c10⟩) (Nat.le_of_ble_eq_true rfl) (Nat.le_of_ble_eq_true rfl)
set_option maxHeartbeats 4000000 in
set_option maxRecDepth 100000 in
theorem c_X4_laneOrThrow (l : Launch) (hfl : l.stackTraces = false) (D : va_G) (cA : Nat → ClassId) (n : Nat → Nat) (am : ts_Am) (S : ts_St) (sz : Nat) (x : Int) (hW : cW n S) (hx0 : iR x) : vx_Met l yX4_laneOrThrow wsX4_laneOrThrow ({ frames := 6, cells := 1, slots := 6, locals := 90 } : Room) (va_Pc [.ref (am 0 0), .int (iZ x)] (zPX TX D cA (n, am, S) sz)) (zQq TX D cA (n, am, S) sz 5 (fun z u => (0 ≤ z ∧ z = x ∧ x < (n 5 : Int)) ∧ u = (n, am, S))) (zXX TX D cA (n, am, S) sz (fun E => E = xN_IOB ∧ ¬ (0 ≤ x ∧ x < (n 5 : Int)))) 1 6 (ts_A (n, am, S) sz) := by
  refine zMx_of (by decide) rfl (Nat.le_of_ble_eq_true rfl) ?_
  intro p e s m below meth c hx hb hr hts hown hlocks hml hex hK hG hsz H locs hI ls hl
  subst hsz
  have hown : s.vm.findClass RX4 = some m.cls := hown
  have hl : lv_has ls 3 [(0, .ref (am 0 0)), (1, .int (iZ x))] := hl
  have f10 := hts (.fieldLink RX4 10 "DockyardSlots" "lanes" "LDockyardSlots$LaneRow;") (by decide +kernel)
  have LX4 : ∀ w ∈ wsX40, w.before [.ref (am 0 0), .int (iZ x)].toArray s = true := fun w h => hts w (List.mem_cons_of_mem _ (List.mem_append_left _ (List.mem_append_left _ (List.mem_append_right _ h))))
  have hcn := hW.cn
  have hlim := hW.lim
  refine lv_aload_n hx hb dX4_laneOrThrow_0 rfl (lv_at hl 0 rfl) ?_
  refine zg_r (κ := 0) (i := 0) (k := 0) (t := 1) (j := 0) hx hb LX4 hown hK hI hW.1.1 rfl rfl (by decide) rfl f10 (fun _ h9 => h9) dX4_laneOrThrow_1 hW.2.1.1 (fun v1 => ?_)
  refine lv_iload_n hx hb dX4_laneOrThrow_4 rfl (lv_at hl 1 rfl) ?_
  refine zc_q (zrV (As := [.int (iZ x)]) (rest := []) (κ := 1) (i := 0) ⟨hx, hb, hml, hown, hts⟩ (c_X3_laneAt l D cA n am S H.size x hW (by omega)) (cwV 1 hts gX4_laneOrThrow_X3_laneAt rfl rfl rfl (by decide +kernel) ⟨Nat.le_of_ble_eq_true rfl, Nat.le_of_ble_eq_true rfl⟩) hK hI v1 rfl rfl rfl hl.1 rfl (Nat.le_of_ble_eq_true rfl) dX4_laneOrThrow_5 ⟨Nat.le_of_ble_eq_true rfl, Nat.le_of_ble_eq_true rfl⟩) hI (fun u9 H locs hp4 hI hfr => ?_) (fun j5 u9 H locs v6 hp4 hI hfr => ?_)
  · clear hfr
    obtain ⟨ez2, rfl⟩ := hp4
    refine lv_astore_nN (lv' := [(2, .null), (0, .ref (am 0 0)), (1, .int (iZ x))]) hx hb dX4_laneOrThrow_8 rfl hl (by decide) rfl (fun ls hl => ?_)
    refine lv_aload_nN hx hb dX4_laneOrThrow_9 rfl (lv_at hl 0 rfl) ?_
    refine lv_ifnonnullN hx hb dX4_laneOrThrow_10 ?_
    exact zx_throw (text := "there is no such lane") hx hb hfl hown hG hI xC_IOB xF_IOB (hts _ (by decide +kernel)) (hts _ (by decide +kernel)) (fun w h => hts w (List.mem_cons_of_mem _ (List.mem_append_right _ h))) xA_IOB xO_IOB (by decide +kernel) (by rw [hml]; exact hl.1) dX4_laneOrThrow_13 dX4_laneOrThrow_16 dX4_laneOrThrow_17 dX4_laneOrThrow_19 dX4_laneOrThrow_22 hex (Nat.le_of_ble_eq_true rfl) (Nat.le_of_ble_eq_true rfl) (Nat.le_of_ble_eq_true rfl) (Nat.le_of_ble_eq_true rfl) hlocks ⟨rfl, fun q => by have := yLane_W hW q.1 q.2; omega⟩ (Nat.le_of_ble_eq_true rfl) (Nat.le_of_ble_eq_true rfl)
  · clear hfr
    obtain ⟨ej5, rfl⟩ := hp4
    have v6 : j5 < n 5 := v6
    refine lv_astore_n (lv' := [(2, .ref (am 5 j5)), (0, .ref (am 0 0)), (1, .int (iZ x))]) hx hb dX4_laneOrThrow_8 rfl hl (by decide) rfl (fun ls hl => ?_)
    refine lv_aload_n hx hb dX4_laneOrThrow_9 rfl (lv_at hl 0 rfl) ?_
    refine lv_ifnonnull (tgt := 23) hx hb dX4_laneOrThrow_10 (by decide) ?_
    refine lv_aload_n hx hb dX4_laneOrThrow_23 rfl (lv_at hl 0 rfl) ?_
    exact vx_ret (ze_q (u' := (n, am, S)) (z := (j5 : Int)) hx hb hr (Or.inl ⟨_, rfl⟩) hI (ts_V_ref _ _ _).symm (by omega) (Int.ofNat_lt.mpr v6) ⟨by have := yLane_in hW (x := x) (by omega); exact ⟨by omega, by omega, by omega⟩, rfl⟩ (Nat.le_of_ble_eq_true rfl) (Nat.le_of_ble_eq_true rfl) dX4_laneOrThrow_24 hlocks)
set_option maxHeartbeats 4000000 in
set_option maxRecDepth 100000 in
theorem c_X4_homeOrThrow (l : Launch) (hfl : l.stackTraces = false) (D : va_G) (cA : Nat → ClassId) (n : Nat → Nat) (am : ts_Am) (S : ts_St) (sz : Nat) (j : Nat) (hW : cW n S) (hj : j < n 8) : vx_Met l yX4_homeOrThrow wsX4_homeOrThrow ({ frames := 6, cells := 1, slots := 6, locals := 90 } : Room) (va_Pc [.ref (am 8 j)] (zPX TX D cA (n, am, S) sz)) (zQq TX D cA (n, am, S) sz 5 (fun z u => (0 ≤ z ∧ z = S 8 j 7) ∧ u = (n, am, S))) (zXX TX D cA (n, am, S) sz (fun E => E = xN_ISE ∧ S 8 j 7 < 0)) 1 6 (ts_A (n, am, S) sz) := by
  refine zMx_of (by decide) rfl (Nat.le_of_ble_eq_true rfl) ?_
  intro p e s m below meth c hx hb hr hts hown hlocks hml hex hK hG hsz H locs hI ls hl
  subst hsz
  have hown : s.vm.findClass RX4 = some m.cls := hown
  have hl : lv_has ls 2 [(0, .ref (am 8 j))] := hl
  have f252 := hts (.fieldLink RX4 252 "DockyardSlots$Appointment" "lane" "LDockyardSlots$Lane;") (by decide +kernel)
  have LX0 : ∀ w ∈ wsX00, w.before [.ref (am 8 j)].toArray s = true := fun w h => hts w (List.mem_cons_of_mem _ (List.mem_append_left _ (List.mem_append_right _ h)))
  have hcn := hW.cn
  have hlim := hW.lim
  refine lv_aload_n hx hb dX4_homeOrThrow_0 rfl (lv_at hl 0 rfl) ?_
  refine zg_q (κ := 8) (i := j) (k := 7) (t := 5) hx hb LX0 hown hK hI hj rfl rfl (by decide) rfl f252 (fun _ h9 => h9) dX4_homeOrThrow_1 (fun q1 => ?_) (fun j4 q2 v3 => ?_)
  · skip
    refine lv_astore_nN (lv' := [(1, .null), (0, .ref (am 8 j))]) hx hb dX4_homeOrThrow_4 rfl hl (by decide) rfl (fun ls hl => ?_)
    refine lv_aload_nN hx hb dX4_homeOrThrow_5 rfl (lv_at hl 0 rfl) ?_
    refine lv_ifnonnullN hx hb dX4_homeOrThrow_6 ?_
    exact zx_throwW (text := "the trailer is not in a lane") hx hb hfl hown hG hI xC_ISE xF_ISE (hts _ (by decide +kernel)) (hts _ (by decide +kernel)) (fun w h => hts w (List.mem_cons_of_mem _ (List.mem_append_right _ h))) xA_ISE xO_ISE (by decide +kernel) (by rw [hml]; exact hl.1) dX4_homeOrThrow_9 dX4_homeOrThrow_12 dX4_homeOrThrow_13 dX4_homeOrThrow_16 dX4_homeOrThrow_19 hex (Nat.le_of_ble_eq_true rfl) (Nat.le_of_ble_eq_true rfl) (Nat.le_of_ble_eq_true rfl) (Nat.le_of_ble_eq_true rfl) hlocks ⟨rfl, by omega⟩ (Nat.le_of_ble_eq_true rfl) (Nat.le_of_ble_eq_true rfl)
  · skip
    refine lv_astore_n (lv' := [(1, .ref (am 5 j4)), (0, .ref (am 8 j))]) hx hb dX4_homeOrThrow_4 rfl hl (by decide) rfl (fun ls hl => ?_)
    refine lv_aload_n hx hb dX4_homeOrThrow_5 rfl (lv_at hl 0 rfl) ?_
    refine lv_ifnonnull (tgt := 20) hx hb dX4_homeOrThrow_6 (by decide) ?_
    refine lv_aload_n hx hb dX4_homeOrThrow_20 rfl (lv_at hl 0 rfl) ?_
    exact vx_ret (ze_q (u' := (n, am, S)) (z := (j4 : Int)) hx hb hr (Or.inl ⟨_, rfl⟩) hI (ts_V_ref _ _ _).symm (by omega) (Int.ofNat_lt.mpr v3) ⟨⟨by omega, by omega⟩, rfl⟩ (Nat.le_of_ble_eq_true rfl) (Nat.le_of_ble_eq_true rfl) dX4_homeOrThrow_21 hlocks)
set_option maxHeartbeats 4000000 in
set_option maxRecDepth 100000 in
theorem c_X4_homeOfReachedOrThrow (l : Launch) (hfl : l.stackTraces = false) (D : va_G) (cA : Nat → ClassId) (n : Nat → Nat) (am : ts_Am) (S : ts_St) (sz : Nat) (j : Nat) (hW : cW n S) (hj : j < n 8) : vx_Met l yX4_homeOfReachedOrThrow wsX4_homeOfReachedOrThrow ({ frames := 7, cells := 2, slots := 12, locals := 111 } : Room) (va_Pc [.ref (am 8 j)] (zPX TX D cA (n, am, S) sz)) (zQq TX D cA (n, am, S) sz 5 (fun z u => (0 ≤ z ∧ z = S 8 j 7 ∧ yBefore S (S 8 j 7).toNat j = 0) ∧ u = (n, am, S))) (zXX TX D cA (n, am, S) sz (fun E => E = xN_ISE ∧ ¬ (0 ≤ S 8 j 7 ∧ yBefore S (S 8 j 7).toNat j = 0))) 2 12 (ts_A (n, am, S) sz) := by
  refine zMx_of (by decide) rfl (Nat.le_of_ble_eq_true rfl) ?_
  intro p e s m below meth c hx hb hr hts hown hlocks hml hex hK hG hsz H locs hI ls hl
  subst hsz
  have hown : s.vm.findClass RX4 = some m.cls := hown
  have hl : lv_has ls 2 [(0, .ref (am 8 j))] := hl
  have hcn := hW.cn
  have hlim := hW.lim
  refine lv_aload_n hx hb dX4_homeOfReachedOrThrow_0 rfl (lv_at hl 0 rfl) ?_
  refine zxc_q (zxS (As := [.ref (am 8 j)]) (rest := []) ⟨hx, hb, hml, hown, hts⟩ (c_X4_homeOrThrow l hfl D cA n am S H.size j hW hj) (va_cwS 1 hts gX4_homeOfReachedOrThrow_X4_homeOrThrow rfl rfl rfl (by decide +kernel) ⟨Nat.le_of_ble_eq_true rfl, Nat.le_of_ble_eq_true rfl⟩) hK hI hG rfl hl.1 rfl (Nat.le_of_ble_eq_true rfl) dX4_homeOfReachedOrThrow_1 ⟨Nat.le_of_ble_eq_true rfl, Nat.le_of_ble_eq_true rfl⟩) hI hex hlocks (fun E q => ⟨q.1, fun z => by have := q.2; omega⟩) (Nat.le_of_ble_eq_true rfl) (Nat.le_of_ble_eq_true rfl) (fun z u q => q.1.1) (fun j1 u9 H locs v2 hp3 hI => ?_)
  obtain ⟨⟨q4, q5⟩, rfl⟩ := hp3
  obtain rfl : j1 = (S 8 j 7).toNat := by omega
  have v2 : (S 8 j 7).toNat < n 5 := v2
  refine lv_astore_n (lv' := [(1, .ref (am 5 ((S 8 j 7).toNat))), (0, .ref (am 8 j))]) hx hb dX4_homeOfReachedOrThrow_4 rfl hl (by decide) rfl (fun ls hl => ?_)
  refine lv_aload_n hx hb dX4_homeOfReachedOrThrow_5 rfl (lv_at hl 0 rfl) ?_
  refine lv_aload_n hx hb dX4_homeOfReachedOrThrow_6 rfl (lv_at hl 1 rfl) ?_
  refine zc_i (zrV (As := [.ref (am 8 j)]) (rest := []) (κ := 5) (i := ((S 8 j 7).toNat)) ⟨hx, hb, hml, hown, hts⟩ (c_X2_countBefore l D cA n am S H.size ((S 8 j 7).toNat) j v2 hj) (cwV 1 hts gX4_homeOfReachedOrThrow_X2_countBefore rfl rfl rfl (by decide +kernel) ⟨Nat.le_of_ble_eq_true rfl, Nat.le_of_ble_eq_true rfl⟩) hK hI v2 rfl rfl rfl hl.1 rfl (Nat.le_of_ble_eq_true rfl) dX4_homeOfReachedOrThrow_7 ⟨Nat.le_of_ble_eq_true rfl, Nat.le_of_ble_eq_true rfl⟩) hI (fun z6 u9 H locs hz7 hp8 hI hfr => ?_)
  clear hfr
  obtain ⟨rfl, rfl⟩ := hp8
  refine z_if_eq (tgt := 24) hx hb dX4_homeOfReachedOrThrow_10 (by decide) (by unfold yBefore; have := hI.1.2.2.1 5 (S 8 j 7).toNat 4 (by decide); have := hI.1.2.2.1 8 j 8 (by decide); dsimp only at *; omega) (fun c9 => ?_) (fun c9 => ?_)
  · skip
    refine lv_aload_n hx hb dX4_homeOfReachedOrThrow_24 rfl (lv_at hl 0 rfl) ?_
    exact vx_ret (ze_q (u' := (n, am, S)) (z := ((S 8 j 7).toNat : Int)) hx hb hr (Or.inl ⟨_, rfl⟩) hI (ts_V_ref _ _ _).symm (by omega) (Int.ofNat_lt.mpr v2) ⟨⟨by omega, by omega, by omega⟩, rfl⟩ (Nat.le_of_ble_eq_true rfl) (Nat.le_of_ble_eq_true rfl) dX4_homeOfReachedOrThrow_25 hlocks)
  · skip
    exact zx_throwW (text := "the trailer is not reached") hx hb hfl hown hG hI xC_ISE xF_ISE (hts _ (by decide +kernel)) (hts _ (by decide +kernel)) (fun w h => hts w (List.mem_cons_of_mem _ (List.mem_append_right _ h))) xA_ISE xO_ISE (by decide +kernel) (by rw [hml]; exact hl.1) dX4_homeOfReachedOrThrow_13 dX4_homeOfReachedOrThrow_16 dX4_homeOfReachedOrThrow_17 dX4_homeOfReachedOrThrow_20 dX4_homeOfReachedOrThrow_23 hex (Nat.le_of_ble_eq_true rfl) (Nat.le_of_ble_eq_true rfl) (Nat.le_of_ble_eq_true rfl) (Nat.le_of_ble_eq_true rfl) hlocks ⟨rfl, fun z => by omega⟩ (Nat.le_of_ble_eq_true rfl) (Nat.le_of_ble_eq_true rfl)
set_option maxHeartbeats 4000000 in
set_option maxRecDepth 100000 in
theorem c_X4_doorAt (l : Launch) (D : va_G) (cA : Nat → ClassId) (n : Nat → Nat) (am : ts_Am) (S : ts_St) (sz : Nat) (x : Int) (hW : cW n S) (hx0 : iR x) : Met l yX4_doorAt wsX4_doorAt ({ frames := 0, cells := 0, slots := 0, locals := 0 } : Room) (va_Pc [.ref (am 0 0), .int (iZ x)] (zP TX D cA (n, am, S) sz)) (zQq TX D cA (n, am, S) sz 7 (fun z u => z = (if 0 ≤ x ∧ x < (n 7 : Int) then x else -1) ∧ u = (n, am, S))) 0 0 (ts_A (n, am, S) sz) := by
  refine zM_of (by decide) rfl (Nat.le_of_ble_eq_true rfl) ?_
  intro p e s m below meth c hx hb hr hts hown hlocks hml hname hK hsz H locs hI ls hl
  subst hsz
  have hown : s.vm.findClass RX4 = some m.cls := hown
  have hl : lv_has ls 2 [(0, .ref (am 0 0)), (1, .int (iZ x))] := hl
  have f18 := hts (.fieldLink RX4 18 "DockyardSlots" "doors" "[LDockyardSlots$Door;") (by decide +kernel)
  have f69 := hts (.fieldLink RX4 69 "DockyardSlots" "doorCount" "I") (by decide +kernel)
  have LX4 : ∀ w ∈ wsX40, w.before [.ref (am 0 0), .int (iZ x)].toArray s = true := fun w h => hts w (List.mem_cons_of_mem _ (List.mem_append_right _ h))
  have hcn := hW.cn
  have hlim := hW.lim
  refine lv_iload_n hx hb dX4_doorAt_0 rfl (lv_at hl 1 rfl) ?_
  refine z_if_lt (tgt := 21) hx hb dX4_doorAt_1 (by decide) (by omega) (fun c1 => ?_) (fun c1 => ?_)
  · skip
    refine lv_null hx hb dX4_doorAt_21 ?_
    exact (ze_q (u' := (n, am, S)) (z := -1) hx hb hr (Or.inl ⟨_, rfl⟩) hI (ts_rf_n (by decide)).symm (by decide) (by omega) ⟨by rw [if_neg (by omega)], rfl⟩ (Nat.le_of_ble_eq_true rfl) (Nat.le_of_ble_eq_true rfl) dX4_doorAt_22 hlocks)
  · skip
    refine lv_iload_n hx hb dX4_doorAt_4 rfl (lv_at hl 1 rfl) ?_
    refine lv_aload_n hx hb dX4_doorAt_5 rfl (lv_at hl 0 rfl) ?_
    refine zg_i (κ := 0) (i := 0) (k := 2) hx hb LX4 hown hK hI hW.1.1 rfl rfl (by decide) rfl f69 (fun _ h9 => h9) dX4_doorAt_6 rfl (fun b2 => ?_)
    refine z_icmp_ge (tgt := 21) hx hb dX4_doorAt_9 (by decide) (by omega) (by omega) (fun c3 => ?_) (fun c3 => ?_)
    · skip
      refine lv_null hx hb dX4_doorAt_21 ?_
      exact (ze_q (u' := (n, am, S)) (z := -1) hx hb hr (Or.inl ⟨_, rfl⟩) hI (ts_rf_n (by decide)).symm (by decide) (by omega) ⟨by rw [if_neg (by omega)], rfl⟩ (Nat.le_of_ble_eq_true rfl) (Nat.le_of_ble_eq_true rfl) dX4_doorAt_22 hlocks)
    · skip
      refine lv_iload_n hx hb dX4_doorAt_12 rfl (lv_at hl 1 rfl) ?_
      refine lv_aload_n hx hb dX4_doorAt_13 rfl (lv_at hl 0 rfl) ?_
      refine zg_r (κ := 0) (i := 0) (k := 1) (t := 3) (j := 0) hx hb LX4 hown hK hI hW.1.1 rfl rfl (by decide) rfl f18 (fun _ h9 => h9) dX4_doorAt_14 hW.2.1.2.1 (fun v4 => ?_)
      refine zal hx hb hK hI v4 rfl dX4_doorAt_17 ?_
      refine z_icmp_lt (tgt := 23) hx hb dX4_doorAt_18 (by decide) (by omega) (by omega) (fun c5 => ?_) (fun c5 => ?_)
      · skip
        refine lv_aload_n hx hb dX4_doorAt_23 rfl (lv_at hl 0 rfl) ?_
        refine zg_r (κ := 0) (i := 0) (k := 1) (t := 3) (j := 0) hx hb LX4 hown hK hI hW.1.1 rfl rfl (by decide) rfl f18 (fun _ h9 => h9) dX4_doorAt_24 hW.2.1.2.1 (fun v6 => ?_)
        refine lv_iload_n hx hb dX4_doorAt_27 rfl (lv_at hl 1 rfl) ?_
        refine za_r (κ := 3) (i := 0) (t := 7) (k := x.toNat) hx hb hK hI v6 rfl (by omega) (by omega) (by omega) dX4_doorAt_28 (hW.da (by omega)) (fun v7 => ?_)
        exact (ze_q (u' := (n, am, S)) (z := (x.toNat : Int)) hx hb hr (Or.inl ⟨_, rfl⟩) hI (ts_V_ref _ _ _).symm (by omega) (Int.ofNat_lt.mpr v7) ⟨by rw [if_pos (by omega)]; omega, rfl⟩ (Nat.le_of_ble_eq_true rfl) (Nat.le_of_ble_eq_true rfl) dX4_doorAt_29 hlocks)
      · skip
        refine lv_null hx hb dX4_doorAt_21 ?_
        exact (ze_q (u' := (n, am, S)) (z := -1) hx hb hr (Or.inl ⟨_, rfl⟩) hI (ts_rf_n (by decide)).symm (by decide) (by omega) ⟨by rw [if_neg (by omega)], rfl⟩ (Nat.le_of_ble_eq_true rfl) (Nat.le_of_ble_eq_true rfl) dX4_doorAt_22 hlocks)
set_option maxHeartbeats 4000000 in
set_option maxRecDepth 100000 in
theorem c_X4_punctualityOf (l : Launch) (D : va_G) (cA : Nat → ClassId) (n : Nat → Nat) (am : ts_Am) (S : ts_St) (sz : Nat) (j : Nat) (hW : cW n S) (hj : j < n 8) : Met l yX4_punctualityOf wsX4_punctualityOf ({ frames := 0, cells := 0, slots := 0, locals := 0 } : Room) (va_Pc [.ref (am 0 0), .ref (am 8 j)] (zP TX D cA (n, am, S) sz)) (zQi TX D cA (n, am, S) sz (fun z u => z = yPunc S j ∧ u = (n, am, S))) 0 0 (ts_A (n, am, S) sz) := by
  refine zM_of (by decide) rfl (Nat.le_of_ble_eq_true rfl) ?_
  intro p e s m below meth c hx hb hr hts hown hlocks hml hname hK hsz H locs hI ls hl
  subst hsz
  have hown : s.vm.findClass RX4 = some m.cls := hown
  have hl : lv_has ls 3 [(0, .ref (am 0 0)), (1, .ref (am 8 j))] := hl
  have f129 := hts (.fieldLink RX4 129 "DockyardSlots$Appointment" "arrivedAt" "I") (by decide +kernel)
  have f139 := hts (.fieldLink RX4 139 "DockyardSlots$Appointment" "hour" "I") (by decide +kernel)
  have f28 := hts (.fieldLink RX4 28 "DockyardSlots" "tolerance" "I") (by decide +kernel)
  have LX0 : ∀ w ∈ wsX00, w.before [.ref (am 0 0), .ref (am 8 j)].toArray s = true := fun w h => hts w (List.mem_cons_of_mem _ (List.mem_append_left _ (List.mem_append_right _ h)))
  have LX4 : ∀ w ∈ wsX40, w.before [.ref (am 0 0), .ref (am 8 j)].toArray s = true := fun w h => hts w (List.mem_cons_of_mem _ (List.mem_append_right _ h))
  have hcn := hW.cn
  have hlim := hW.lim
  refine lv_aload_n hx hb dX4_punctualityOf_0 rfl (lv_at hl 1 rfl) ?_
  refine zg_i (κ := 8) (i := j) (k := 5) hx hb LX0 hown hK hI hj rfl rfl (by decide) rfl f129 (fun _ h9 => h9) dX4_punctualityOf_1 rfl (fun b1 => ?_)
  refine lv_aload_n hx hb dX4_punctualityOf_4 rfl (lv_at hl 1 rfl) ?_
  refine zg_i (κ := 8) (i := j) (k := 1) hx hb LX0 hown hK hI hj rfl rfl (by decide) rfl f139 (fun _ h9 => h9) dX4_punctualityOf_5 rfl (fun b2 => ?_)
  refine z_isub hx hb dX4_punctualityOf_8 ?_
  refine lv_istore_n (lv' := [(2, .int (iZ (S 8 j 5 - S 8 j 1))), (0, .ref (am 0 0)), (1, .ref (am 8 j))]) hx hb dX4_punctualityOf_9 rfl hl (by decide) rfl (fun ls hl => ?_)
  refine lv_iload_n hx hb dX4_punctualityOf_10 rfl (lv_at hl 0 rfl) ?_
  refine lv_aload_n hx hb dX4_punctualityOf_11 rfl (lv_at hl 1 rfl) ?_
  refine zg_i (κ := 0) (i := 0) (k := 5) hx hb LX4 hown hK hI hW.1.1 rfl rfl (by decide) rfl f28 (fun _ h9 => h9) dX4_punctualityOf_12 rfl (fun b3 => ?_)
  refine z_icmp_le (tgt := 21) hx hb dX4_punctualityOf_15 (by decide) (by omega) (by omega) (fun c4 => ?_) (fun c4 => ?_)
  · skip
    refine lv_iload_n hx hb dX4_punctualityOf_21 rfl (lv_at hl 0 rfl) ?_
    refine z_ineg hx hb dX4_punctualityOf_22 ?_
    refine lv_aload_n hx hb dX4_punctualityOf_23 rfl (lv_at hl 1 rfl) ?_
    refine zg_i (κ := 0) (i := 0) (k := 5) hx hb LX4 hown hK hI hW.1.1 rfl rfl (by decide) rfl f28 (fun _ h9 => h9) dX4_punctualityOf_24 rfl (fun b5 => ?_)
    refine z_icmp_le (tgt := 35) hx hb dX4_punctualityOf_27 (by decide) (by omega) (by omega) (fun c6 => ?_) (fun c6 => ?_)
    · skip
      refine z_bipush hx hb dX4_punctualityOf_35 (by decide) ?_
      exact (ze_i (u' := (n, am, S)) (z := 111) hx hb hr (iZ_narc (by omega) (by omega)).1 hI (by omega) ⟨by unfold yPunc; repeat (first | rw [if_pos (by omega)] | rw [if_neg (by omega)]), rfl⟩ (Nat.le_of_ble_eq_true rfl) (Nat.le_of_ble_eq_true rfl) dX4_punctualityOf_37 hlocks)
    · skip
      refine z_bipush hx hb dX4_punctualityOf_30 (by decide) ?_
      refine lv_goto (tgt := 37) hx hb dX4_punctualityOf_32 (by decide) ?_
      exact (ze_i (u' := (n, am, S)) (z := 101) hx hb hr (iZ_narc (by omega) (by omega)).1 hI (by omega) ⟨by unfold yPunc; repeat (first | rw [if_pos (by omega)] | rw [if_neg (by omega)]), rfl⟩ (Nat.le_of_ble_eq_true rfl) (Nat.le_of_ble_eq_true rfl) dX4_punctualityOf_37 hlocks)
  · skip
    refine z_bipush hx hb dX4_punctualityOf_18 (by decide) ?_
    exact (ze_i (u' := (n, am, S)) (z := 108) hx hb hr (iZ_narc (by omega) (by omega)).1 hI (by omega) ⟨by unfold yPunc; repeat (first | rw [if_pos (by omega)] | rw [if_neg (by omega)]), rfl⟩ (Nat.le_of_ble_eq_true rfl) (Nat.le_of_ble_eq_true rfl) dX4_punctualityOf_20 hlocks)
set_option maxHeartbeats 4000000 in
set_option maxRecDepth 100000 in
theorem c_X4_waitingHours (l : Launch) (D : va_G) (cA : Nat → ClassId) (n : Nat → Nat) (am : ts_Am) (S : ts_St) (sz : Nat) (j : Nat) (hW : cW n S) (hj : j < n 8) : Met l yX4_waitingHours wsX4_waitingHours ({ frames := 1, cells := 0, slots := 0, locals := 40 } : Room) (va_Pc [.ref (am 0 0), .ref (am 8 j)] (zP TX D cA (n, am, S) sz)) (zQi TX D cA (n, am, S) sz (fun z u => z = yWait S j ∧ u = (n, am, S))) 0 0 (ts_A (n, am, S) sz) := by
  refine zM_of (by decide) rfl (Nat.le_of_ble_eq_true rfl) ?_
  intro p e s m below meth c hx hb hr hts hown hlocks hml hname hK hsz H locs hI ls hl
  subst hsz
  have hown : s.vm.findClass RX4 = some m.cls := hown
  have hl : lv_has ls 4 [(0, .ref (am 0 0)), (1, .ref (am 8 j))] := hl
  have f102 := hts (.fieldLink RX4 102 "DockyardSlots$Appointment" "state" "C") (by decide +kernel)
  have f129 := hts (.fieldLink RX4 129 "DockyardSlots$Appointment" "arrivedAt" "I") (by decide +kernel)
  have f139 := hts (.fieldLink RX4 139 "DockyardSlots$Appointment" "hour" "I") (by decide +kernel)
  have f184 := hts (.fieldLink RX4 184 "DockyardSlots$Appointment" "dockedAt" "I") (by decide +kernel)
  have f81 := hts (.fieldLink RX4 81 "DockyardSlots" "now" "I") (by decide +kernel)
  have LX0 : ∀ w ∈ wsX00, w.before [.ref (am 0 0), .ref (am 8 j)].toArray s = true := fun w h => hts w (List.mem_cons_of_mem _ (List.mem_append_left _ (List.mem_append_right _ h)))
  have LX4 : ∀ w ∈ wsX40, w.before [.ref (am 0 0), .ref (am 8 j)].toArray s = true := fun w h => hts w (List.mem_cons_of_mem _ (List.mem_append_right _ h))
  have hcn := hW.cn
  have hlim := hW.lim
  refine lv_aload_n hx hb dX4_waitingHours_0 rfl (lv_at hl 1 rfl) ?_
  refine zg_i (κ := 8) (i := j) (k := 5) hx hb LX0 hown hK hI hj rfl rfl (by decide) rfl f129 (fun _ h9 => h9) dX4_waitingHours_1 rfl (fun b1 => ?_)
  refine lv_aload_n hx hb dX4_waitingHours_4 rfl (lv_at hl 1 rfl) ?_
  refine zg_i (κ := 8) (i := j) (k := 1) hx hb LX0 hown hK hI hj rfl rfl (by decide) rfl f139 (fun _ h9 => h9) dX4_waitingHours_5 rfl (fun b2 => ?_)
  refine z_max hx hb (by rw [hml]; exact hl.1.symm) hown (hts _ (by decide +kernel)) (hts _ (by decide +kernel)) (hts _ (by decide +kernel)) (hts _ (by decide +kernel)) (Nat.le_of_ble_eq_true rfl) (Nat.le_of_ble_eq_true rfl) (Nat.le_of_ble_eq_true rfl) (Nat.le_of_ble_eq_true rfl) (by omega) (by omega) dX4_waitingHours_8 ?_
  refine lv_istore_n (lv' := [(2, .int (iZ (max (S 8 j 5) (S 8 j 1)))), (0, .ref (am 0 0)), (1, .ref (am 8 j))]) hx hb dX4_waitingHours_11 rfl hl (by decide) rfl (fun ls hl => ?_)
  refine lv_aload_n hx hb dX4_waitingHours_12 rfl (lv_at hl 2 rfl) ?_
  refine zg_i (κ := 8) (i := j) (k := 4) hx hb LX0 hown hK hI hj rfl rfl (by decide) rfl f102 (fun _ h9 => h9) dX4_waitingHours_13 rfl (fun b3 => ?_)
  refine z_bipush hx hb dX4_waitingHours_16 (by decide) ?_
  refine z_icmp_ne (tgt := 28) hx hb dX4_waitingHours_18 (by decide) (by omega) (by omega) (fun c4 => ?_) (fun c4 => ?_)
  · skip
    refine lv_aload_n hx hb dX4_waitingHours_28 rfl (lv_at hl 2 rfl) ?_
    refine zg_i (κ := 8) (i := j) (k := 6) hx hb LX0 hown hK hI hj rfl rfl (by decide) rfl f184 (fun _ h9 => h9) dX4_waitingHours_29 rfl (fun b5 => ?_)
    refine lv_istore_n (lv' := [(3, .int (iZ (S 8 j 6))), (2, .int (iZ (max (S 8 j 5) (S 8 j 1)))), (0, .ref (am 0 0)), (1, .ref (am 8 j))]) hx hb dX4_waitingHours_32 rfl hl (by decide) rfl (fun ls hl => ?_)
    refine z_iconst hx hb dX4_waitingHours_33 ?_
    refine lv_iload_n hx hb dX4_waitingHours_34 rfl (lv_at hl 0 rfl) ?_
    refine lv_iload_n hx hb dX4_waitingHours_35 rfl (lv_at hl 1 rfl) ?_
    refine z_isub hx hb dX4_waitingHours_36 ?_
    refine z_max hx hb (by rw [hml]; exact hl.1.symm) hown (hts _ (by decide +kernel)) (hts _ (by decide +kernel)) (hts _ (by decide +kernel)) (hts _ (by decide +kernel)) (Nat.le_of_ble_eq_true rfl) (Nat.le_of_ble_eq_true rfl) (Nat.le_of_ble_eq_true rfl) (Nat.le_of_ble_eq_true rfl) (by omega) (by omega) dX4_waitingHours_37 ?_
    exact (ze_i (u' := (n, am, S)) (z := (max 0 (S 8 j 6 - (max (S 8 j 5) (S 8 j 1))))) hx hb hr rfl hI (by omega) ⟨by unfold yWait; repeat (first | rw [if_pos (by omega)] | rw [if_neg (by omega)]), rfl⟩ (Nat.le_of_ble_eq_true rfl) (Nat.le_of_ble_eq_true rfl) dX4_waitingHours_40 hlocks)
  · skip
    refine lv_aload_n hx hb dX4_waitingHours_21 rfl (lv_at hl 1 rfl) ?_
    refine zg_i (κ := 0) (i := 0) (k := 10) hx hb LX4 hown hK hI hW.1.1 rfl rfl (by decide) rfl f81 (fun _ h9 => h9) dX4_waitingHours_22 rfl (fun b6 => ?_)
    refine lv_goto (tgt := 32) hx hb dX4_waitingHours_25 (by decide) ?_
    refine lv_istore_n (lv' := [(3, .int (iZ (S 0 0 10))), (2, .int (iZ (max (S 8 j 5) (S 8 j 1)))), (0, .ref (am 0 0)), (1, .ref (am 8 j))]) hx hb dX4_waitingHours_32 rfl hl (by decide) rfl (fun ls hl => ?_)
    refine z_iconst hx hb dX4_waitingHours_33 ?_
    refine lv_iload_n hx hb dX4_waitingHours_34 rfl (lv_at hl 0 rfl) ?_
    refine lv_iload_n hx hb dX4_waitingHours_35 rfl (lv_at hl 1 rfl) ?_
    refine z_isub hx hb dX4_waitingHours_36 ?_
    refine z_max hx hb (by rw [hml]; exact hl.1.symm) hown (hts _ (by decide +kernel)) (hts _ (by decide +kernel)) (hts _ (by decide +kernel)) (hts _ (by decide +kernel)) (Nat.le_of_ble_eq_true rfl) (Nat.le_of_ble_eq_true rfl) (Nat.le_of_ble_eq_true rfl) (Nat.le_of_ble_eq_true rfl) (by omega) (by omega) dX4_waitingHours_37 ?_
    exact (ze_i (u' := (n, am, S)) (z := (max 0 (S 0 0 10 - (max (S 8 j 5) (S 8 j 1))))) hx hb hr rfl hI (by omega) ⟨by unfold yWait; repeat (first | rw [if_pos (by omega)] | rw [if_neg (by omega)]), rfl⟩ (Nat.le_of_ble_eq_true rfl) (Nat.le_of_ble_eq_true rfl) dX4_waitingHours_40 hlocks)
set_option maxHeartbeats 4000000 in
set_option maxRecDepth 100000 in
theorem c_X4_chargeInSteps (l : Launch) (D : va_G) (cA : Nat → ClassId) (n : Nat → Nat) (am : ts_Am) (S : ts_St) (sz : Nat) (j : Nat) (hW : cW n S) (hj : j < n 8) (hcr : cR n S) : Met l yX4_chargeInSteps wsX4_chargeInSteps ({ frames := 2, cells := 0, slots := 0, locals := 63 } : Room) (va_Pc [.ref (am 0 0), .ref (am 8 j)] (zP TX D cA (n, am, S) sz)) (zQi TX D cA (n, am, S) sz (fun z u => z = yCharge S j ∧ u = (n, am, S))) 0 0 (ts_A (n, am, S) sz) := by
  refine zM_of (by decide) rfl (Nat.le_of_ble_eq_true rfl) ?_
  intro p e s m below meth c hx hb hr hts hown hlocks hml hname hK hsz H locs hI ls hl
  subst hsz
  have hown : s.vm.findClass RX4 = some m.cls := hown
  have hl : lv_has ls 4 [(0, .ref (am 0 0)), (1, .ref (am 8 j))] := hl
  have f32 := hts (.fieldLink RX4 32 "DockyardSlots" "freeHours" "I") (by decide +kernel)
  have f35 := hts (.fieldLink RX4 35 "DockyardSlots" "firstRate" "I") (by decide +kernel)
  have f38 := hts (.fieldLink RX4 38 "DockyardSlots" "firstHours" "I") (by decide +kernel)
  have f41 := hts (.fieldLink RX4 41 "DockyardSlots" "secondRate" "I") (by decide +kernel)
  have LX4 : ∀ w ∈ wsX40, w.before [.ref (am 0 0), .ref (am 8 j)].toArray s = true := fun w h => hts w (List.mem_cons_of_mem _ (List.mem_append_left _ (List.mem_append_right _ h)))
  have hcn := hW.cn
  have hlim := hW.lim
  have hcr1 := hcr.1
  have hwt := yWait_R hcr hj
  have hpu := yPunc_R S j
  refine lv_aload_n hx hb dX4_chargeInSteps_0 rfl (lv_at hl 0 rfl) ?_
  refine lv_aload_n hx hb dX4_chargeInSteps_1 rfl (lv_at hl 1 rfl) ?_
  refine zc_i (zrV (As := [.ref (am 8 j)]) (rest := []) (κ := 0) (i := 0) ⟨hx, hb, hml, hown, hts⟩ (c_X4_punctualityOf l D cA n am S H.size j hW hj) (cwV 1 hts gX4_chargeInSteps_X4_punctualityOf rfl rfl rfl (by decide +kernel) ⟨Nat.le_of_ble_eq_true rfl, Nat.le_of_ble_eq_true rfl⟩) hK hI hW.1.1 rfl rfl rfl hl.1 rfl (Nat.le_of_ble_eq_true rfl) dX4_chargeInSteps_2 ⟨Nat.le_of_ble_eq_true rfl, Nat.le_of_ble_eq_true rfl⟩) hI (fun z1 u9 H locs hz2 hp3 hI hfr => ?_)
  clear hfr
  obtain ⟨rfl, rfl⟩ := hp3
  refine z_bipush hx hb dX4_chargeInSteps_5 (by decide) ?_
  refine z_icmp_ne (tgt := 12) hx hb dX4_chargeInSteps_7 (by decide) (by omega) (by omega) (fun c4 => ?_) (fun c4 => ?_)
  · skip
    refine z_iconst hx hb dX4_chargeInSteps_12 ?_
    refine lv_aload_n hx hb dX4_chargeInSteps_13 rfl (lv_at hl 0 rfl) ?_
    refine lv_aload_n hx hb dX4_chargeInSteps_14 rfl (lv_at hl 1 rfl) ?_
    refine zc_i (zrV (As := [.ref (am 8 j)]) (rest := [.int (iZ 0)]) (κ := 0) (i := 0) ⟨hx, hb, hml, hown, hts⟩ (c_X4_waitingHours l D cA n am S H.size j hW hj) (cwV 1 hts gX4_chargeInSteps_X4_waitingHours rfl rfl rfl (by decide +kernel) ⟨Nat.le_of_ble_eq_true rfl, Nat.le_of_ble_eq_true rfl⟩) hK hI hW.1.1 rfl rfl rfl hl.1 rfl (Nat.le_of_ble_eq_true rfl) dX4_chargeInSteps_15 ⟨Nat.le_of_ble_eq_true rfl, Nat.le_of_ble_eq_true rfl⟩) hI (fun z5 u9 H locs hz6 hp7 hI hfr => ?_)
    clear hfr
    obtain ⟨rfl, rfl⟩ := hp7
    refine lv_aload_n hx hb dX4_chargeInSteps_18 rfl (lv_at hl 0 rfl) ?_
    refine zg_i (κ := 0) (i := 0) (k := 6) hx hb LX4 hown hK hI hW.1.1 rfl rfl (by decide) rfl f32 (fun _ h9 => h9) dX4_chargeInSteps_19 rfl (fun b8 => ?_)
    refine z_isub hx hb dX4_chargeInSteps_22 ?_
    refine z_max hx hb (by rw [hml]; exact hl.1.symm) hown (hts _ (by decide +kernel)) (hts _ (by decide +kernel)) (hts _ (by decide +kernel)) (hts _ (by decide +kernel)) (Nat.le_of_ble_eq_true rfl) (Nat.le_of_ble_eq_true rfl) (Nat.le_of_ble_eq_true rfl) (Nat.le_of_ble_eq_true rfl) (by omega) (by omega) dX4_chargeInSteps_23 ?_
    refine lv_istore_n (lv' := [(2, .int (iZ (max 0 (yWait S j - S 0 0 6)))), (0, .ref (am 0 0)), (1, .ref (am 8 j))]) hx hb dX4_chargeInSteps_26 rfl hl (by decide) rfl (fun ls hl => ?_)
    refine lv_iload_n hx hb dX4_chargeInSteps_27 rfl (lv_at hl 0 rfl) ?_
    refine lv_aload_n hx hb dX4_chargeInSteps_28 rfl (lv_at hl 1 rfl) ?_
    refine zg_i (κ := 0) (i := 0) (k := 8) hx hb LX4 hown hK hI hW.1.1 rfl rfl (by decide) rfl f38 (fun _ h9 => h9) dX4_chargeInSteps_29 rfl (fun b9 => ?_)
    refine z_min hx hb (by rw [hml]; exact hl.1.symm) hown (hts _ (by decide +kernel)) (hts _ (by decide +kernel)) (hts _ (by decide +kernel)) (hts _ (by decide +kernel)) (Nat.le_of_ble_eq_true rfl) (Nat.le_of_ble_eq_true rfl) (Nat.le_of_ble_eq_true rfl) (Nat.le_of_ble_eq_true rfl) (by omega) (by omega) dX4_chargeInSteps_32 ?_
    refine lv_istore_n (lv' := [(3, .int (iZ (min (max 0 (yWait S j - S 0 0 6)) (S 0 0 8)))), (2, .int (iZ (max 0 (yWait S j - S 0 0 6)))), (0, .ref (am 0 0)), (1, .ref (am 8 j))]) hx hb dX4_chargeInSteps_35 rfl hl (by decide) rfl (fun ls hl => ?_)
    refine lv_iload_n hx hb dX4_chargeInSteps_36 rfl (lv_at hl 0 rfl) ?_
    refine lv_aload_n hx hb dX4_chargeInSteps_37 rfl (lv_at hl 2 rfl) ?_
    refine zg_i (κ := 0) (i := 0) (k := 7) hx hb LX4 hown hK hI hW.1.1 rfl rfl (by decide) rfl f35 (fun _ h9 => h9) dX4_chargeInSteps_38 rfl (fun b10 => ?_)
    refine z_imul hx hb dX4_chargeInSteps_41 ?_
    refine lv_iload_n hx hb dX4_chargeInSteps_42 rfl (lv_at hl 1 rfl) ?_
    refine lv_iload_n hx hb dX4_chargeInSteps_43 rfl (lv_at hl 0 rfl) ?_
    refine z_isub hx hb dX4_chargeInSteps_44 ?_
    refine lv_aload_n hx hb dX4_chargeInSteps_45 rfl (lv_at hl 2 rfl) ?_
    refine zg_i (κ := 0) (i := 0) (k := 9) hx hb LX4 hown hK hI hW.1.1 rfl rfl (by decide) rfl f41 (fun _ h9 => h9) dX4_chargeInSteps_46 rfl (fun b11 => ?_)
    refine z_imul hx hb dX4_chargeInSteps_49 ?_
    refine z_iadd hx hb dX4_chargeInSteps_50 ?_
    exact (ze_i (u' := (n, am, S)) (z := (((min (max 0 (yWait S j - S 0 0 6)) (S 0 0 8)) * S 0 0 7) + (((max 0 (yWait S j - S 0 0 6)) - (min (max 0 (yWait S j - S 0 0 6)) (S 0 0 8))) * S 0 0 9))) hx hb hr rfl hI (by have := yChg_R hcr hj; unfold yPaid at this; constructor <;> omega) ⟨(if_neg (by omega)).symm, rfl⟩ (Nat.le_of_ble_eq_true rfl) (Nat.le_of_ble_eq_true rfl) dX4_chargeInSteps_51 hlocks)
  · skip
    refine z_iconst hx hb dX4_chargeInSteps_10 ?_
    exact (ze_i (u' := (n, am, S)) (z := 0) hx hb hr rfl hI (by omega) ⟨(if_pos (by omega)).symm, rfl⟩ (Nat.le_of_ble_eq_true rfl) (Nat.le_of_ble_eq_true rfl) dX4_chargeInSteps_11 hlocks)
set_option maxHeartbeats 4000000 in
set_option maxRecDepth 100000 in
theorem c_X4_rateOfHour (l : Launch) (D : va_G) (cA : Nat → ClassId) (n : Nat → Nat) (am : ts_Am) (S : ts_St) (sz : Nat) (x : Int) (hW : cW n S) (hx0 : iR x) : Met l yX4_rateOfHour wsX4_rateOfHour ({ frames := 0, cells := 0, slots := 0, locals := 0 } : Room) (va_Pc [.ref (am 0 0), .int (iZ x)] (zP TX D cA (n, am, S) sz)) (zQi TX D cA (n, am, S) sz (fun z u => z = yRate S x ∧ u = (n, am, S))) 0 0 (ts_A (n, am, S) sz) := by
  refine zM_of (by decide) rfl (Nat.le_of_ble_eq_true rfl) ?_
  intro p e s m below meth c hx hb hr hts hown hlocks hml hname hK hsz H locs hI ls hl
  subst hsz
  have hown : s.vm.findClass RX4 = some m.cls := hown
  have hl : lv_has ls 2 [(0, .ref (am 0 0)), (1, .int (iZ x))] := hl
  have f32 := hts (.fieldLink RX4 32 "DockyardSlots" "freeHours" "I") (by decide +kernel)
  have f35 := hts (.fieldLink RX4 35 "DockyardSlots" "firstRate" "I") (by decide +kernel)
  have f38 := hts (.fieldLink RX4 38 "DockyardSlots" "firstHours" "I") (by decide +kernel)
  have f41 := hts (.fieldLink RX4 41 "DockyardSlots" "secondRate" "I") (by decide +kernel)
  have LX4 : ∀ w ∈ wsX40, w.before [.ref (am 0 0), .int (iZ x)].toArray s = true := fun w h => hts w (List.mem_cons_of_mem _ (List.mem_append_right _ h))
  have hcn := hW.cn
  have hlim := hW.lim
  refine lv_iload_n hx hb dX4_rateOfHour_0 rfl (lv_at hl 1 rfl) ?_
  refine lv_aload_n hx hb dX4_rateOfHour_1 rfl (lv_at hl 0 rfl) ?_
  refine zg_i (κ := 0) (i := 0) (k := 6) hx hb LX4 hown hK hI hW.1.1 rfl rfl (by decide) rfl f32 (fun _ h9 => h9) dX4_rateOfHour_2 rfl (fun b1 => ?_)
  refine z_icmp_ge (tgt := 10) hx hb dX4_rateOfHour_5 (by decide) (by omega) (by omega) (fun c2 => ?_) (fun c2 => ?_)
  · skip
    refine lv_iload_n hx hb dX4_rateOfHour_10 rfl (lv_at hl 1 rfl) ?_
    refine lv_aload_n hx hb dX4_rateOfHour_11 rfl (lv_at hl 0 rfl) ?_
    refine zg_i (κ := 0) (i := 0) (k := 6) hx hb LX4 hown hK hI hW.1.1 rfl rfl (by decide) rfl f32 (fun _ h9 => h9) dX4_rateOfHour_12 rfl (fun b3 => ?_)
    refine lv_aload_n hx hb dX4_rateOfHour_15 rfl (lv_at hl 0 rfl) ?_
    refine zg_i (κ := 0) (i := 0) (k := 8) hx hb LX4 hown hK hI hW.1.1 rfl rfl (by decide) rfl f38 (fun _ h9 => h9) dX4_rateOfHour_16 rfl (fun b4 => ?_)
    refine z_iadd hx hb dX4_rateOfHour_19 ?_
    refine z_icmp_ge (tgt := 30) hx hb dX4_rateOfHour_20 (by decide) (by omega) (by omega) (fun c5 => ?_) (fun c5 => ?_)
    · skip
      refine lv_aload_n hx hb dX4_rateOfHour_30 rfl (lv_at hl 0 rfl) ?_
      refine zg_i (κ := 0) (i := 0) (k := 9) hx hb LX4 hown hK hI hW.1.1 rfl rfl (by decide) rfl f41 (fun _ h9 => h9) dX4_rateOfHour_31 rfl (fun b6 => ?_)
      exact (ze_i (u' := (n, am, S)) (z := S 0 0 9) hx hb hr rfl hI (by omega) ⟨by unfold yRate; repeat (first | rw [if_pos (by omega)] | rw [if_neg (by omega)]), rfl⟩ (Nat.le_of_ble_eq_true rfl) (Nat.le_of_ble_eq_true rfl) dX4_rateOfHour_34 hlocks)
    · skip
      refine lv_aload_n hx hb dX4_rateOfHour_23 rfl (lv_at hl 0 rfl) ?_
      refine zg_i (κ := 0) (i := 0) (k := 7) hx hb LX4 hown hK hI hW.1.1 rfl rfl (by decide) rfl f35 (fun _ h9 => h9) dX4_rateOfHour_24 rfl (fun b7 => ?_)
      refine lv_goto (tgt := 34) hx hb dX4_rateOfHour_27 (by decide) ?_
      exact (ze_i (u' := (n, am, S)) (z := S 0 0 7) hx hb hr rfl hI (by omega) ⟨by unfold yRate; repeat (first | rw [if_pos (by omega)] | rw [if_neg (by omega)]), rfl⟩ (Nat.le_of_ble_eq_true rfl) (Nat.le_of_ble_eq_true rfl) dX4_rateOfHour_34 hlocks)
  · skip
    refine z_iconst hx hb dX4_rateOfHour_8 ?_
    exact (ze_i (u' := (n, am, S)) (z := 0) hx hb hr rfl hI (by omega) ⟨by unfold yRate; repeat (first | rw [if_pos (by omega)] | rw [if_neg (by omega)]), rfl⟩ (Nat.le_of_ble_eq_true rfl) (Nat.le_of_ble_eq_true rfl) dX4_rateOfHour_9 hlocks)
end
