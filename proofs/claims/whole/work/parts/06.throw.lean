/-! 'throw new X(text)' of the class: whatever stood in the store stands there behind it. -/
def gX_names : List String := ["java/lang/RuntimeException", "java/lang/Exception"]
theorem gX_fit : ∀ n ∈ gX_names, Bundle.fit n = true := by decide +kernel
theorem gX_hat {A : Nat → Prop} {s : State} {H : Heap} {args : Array Value} {L : List Cond} {X : String} (hG : gX A s H) (hX : X ∈ gX_cls) (h1 : ∀ w ∈ L.filter goodWord, w.before args s = true) (h2 : ∀ w ∈ L.filter (fun w => !goodWord w), w ∈ [.declares (Bundle.initS "java/lang/RuntimeException"), .declares (Bundle.initS "java/lang/Exception"), .declares (Bundle.initS "java/lang/Throwable"), .castable X X]) : ∀ w ∈ L, w.before args s = true :=
  vx_hat h1 h2 (vx_c (va_Nw.use rfl (hG.2.2.2.2 _ (by decide +kernel))) (vx_c (va_Nw.use rfl (hG.2.2.2.2 _ (by decide +kernel))) (vx_c (va_Nw.use rfl (hG.2.2.2.2 _ (by decide +kernel))) (vx_c (va_Nw.use rfl (hG.2.2.2.1 _ hX)) vx_n))))
section ZT
variable {p : Program} {l : Launch} {e : Env} {R : Room} {s : State} {m : MethodId} {args : Array Value} {below : List Frame} {meth : Method} {c : Code} {H : Heap} {locs : List Loc} {cells slots : Nat} {Q : State → Prop} {cc : ByteArray} {pc : Nat} {ls : Array Slot} {rest : List Value}
variable {tab : ts_Tab} {D : va_G} {cA : Nat → ClassId} {u : ts_W} {Qc : Array Value → State → Outcome → State → Prop} {px : String → Prop} {cls text : String} {ik is ic mc ms : Nat}
theorem zx_throw (hx : p.tables.exec = Jvm.exec) (hb : c.code = cc) (hl : l.stackTraces = false) (hown : s.vm.findClass RX4 = some m.cls) (hG : gX (ts_A u s.heap.size) s s.heap) (hI : ts_I tab D cA (ts_A u s.heap.size) s.heap u H locs) (hX : cls ∈ gX_cls) (hcls : Bundle.fit cls = true)
    (hk : (Cond.classLink RX4 ik cls).before args s = true) (hini : (Cond.initialized cls).before args s = true) (h1 : ∀ w ∈ (vx_atS RX4 ic cls gX_names).filter goodWord, w.before args s = true) (h2 : ∀ w ∈ (vx_atS RX4 ic cls gX_names).filter (fun w => !goodWord w), w ∈ [.declares (Bundle.initS "java/lang/RuntimeException"), .declares (Bundle.initS "java/lang/Exception"), .declares (Bundle.initS "java/lang/Throwable"), .castable cls cls])
    (hgood : ∀ w ∈ Cond.classLink RX4 ik cls :: Cond.initialized cls :: vx_atS RX4 ic cls gX_names, vx_ot w = true) (hstr : (is, text) ∈ gX_strs) (hsize : ls.size = c.maxLocals)
    (d0 : decode cc pc = .ok (.new ik, 3)) (d3 : decode cc (pc + 3) = .ok (.dup, 1)) (d4 : decode cc (pc + 4) = .ok (.ldc is, 2)) (d6 : decode cc (pc + 6) = .ok (.invokespecial ic, 3)) (d9 : decode cc (pc + 9) = .ok (.athrow, 1)) (hout : ∀ x ∈ c.exceptionTable.toList, False)
    (hRf : 5 < R.frames) (hRl : (rest.map fun v => v.category).sum + 82 ≤ R.locals) (hRc : cells + 1 ≤ R.cells) (hRs : slots + 6 ≤ R.slots) (hlocks : meth.locks = false) (hp : px cls) (hc : cells + 1 ≤ mc) (hs : slots + 6 ≤ ms) :
    W p l e R s m args below meth c H locs cells slots (vx_MQ below Qc (zXX tab D cA u s.heap.size px) args s mc ms (ts_A u s.heap.size)) (F0 m pc ls rest) := by
  obtain ⟨sa, hsa⟩ := hG.2.2.1 _ hstr
  refine vx_throwS hx hb hl (names := gX_names) (A := ts_A u s.heap.size) hown hcls gX_fit hk hini hsa (gX_hat hG hX h1 h2) hgood hG.1 hG.2.1 hI.2.2 hsize d0 d3 d4 d6 d9 (fun x h => (hout x h).elim) hRf hRl hRc hRs hlocks (fun t hvm hz hq => ?_) hI.2.2.2.2 hc hs
  refine ⟨(), trivial, ⟨hp, ⟨fun κ i hi => (hI.1.1 κ i hi).kept (hq _ (hI.1.1 κ i hi).lt), hI.1.2⟩, fun q h => ?_⟩, Nat.le_trans hI.2.2.1 hz, fun q h1 h2 => (hq q (Nat.lt_of_lt_of_le h1 hI.2.2.1)).trans (hI.2.2.2.1 q h1 h2)⟩
  rcases h with h | h
  · exact Or.inl h
  · exact Or.inr (Nat.le_trans hI.2.2.1 (Nat.le_trans hz h))
theorem zx_throwW (hx : p.tables.exec = Jvm.exec) (hb : c.code = cc) (hl : l.stackTraces = false) (hown : s.vm.findClass RX4 = some m.cls) (hG : gX (ts_A u s.heap.size) s s.heap) (hI : ts_I tab D cA (ts_A u s.heap.size) s.heap u H locs) (hX : cls ∈ gX_cls) (hcls : Bundle.fit cls = true)
    (hk : (Cond.classLink RX4 ik cls).before args s = true) (hini : (Cond.initialized cls).before args s = true) (h1 : ∀ w ∈ (vx_atS RX4 ic cls gX_names).filter goodWord, w.before args s = true) (h2 : ∀ w ∈ (vx_atS RX4 ic cls gX_names).filter (fun w => !goodWord w), w ∈ [.declares (Bundle.initS "java/lang/RuntimeException"), .declares (Bundle.initS "java/lang/Exception"), .declares (Bundle.initS "java/lang/Throwable"), .castable cls cls])
    (hgood : ∀ w ∈ Cond.classLink RX4 ik cls :: Cond.initialized cls :: vx_atS RX4 ic cls gX_names, vx_ot w = true) (hstr : (is, text) ∈ gX_strs) (hsize : ls.size = c.maxLocals)
    (d0 : decode cc pc = .ok (.new ik, 3)) (d3 : decode cc (pc + 3) = .ok (.dup, 1)) (d4 : decode cc (pc + 4) = .ok (.ldc_w is, 3)) (d6 : decode cc (pc + 7) = .ok (.invokespecial ic, 3)) (d9 : decode cc (pc + 10) = .ok (.athrow, 1)) (hout : ∀ x ∈ c.exceptionTable.toList, False)
    (hRf : 5 < R.frames) (hRl : (rest.map fun v => v.category).sum + 82 ≤ R.locals) (hRc : cells + 1 ≤ R.cells) (hRs : slots + 6 ≤ R.slots) (hlocks : meth.locks = false) (hp : px cls) (hc : cells + 1 ≤ mc) (hs : slots + 6 ≤ ms) :
    W p l e R s m args below meth c H locs cells slots (vx_MQ below Qc (zXX tab D cA u s.heap.size px) args s mc ms (ts_A u s.heap.size)) (F0 m pc ls rest) := by
  obtain ⟨sa, hsa⟩ := hG.2.2.1 _ hstr
  refine vx_throwSW hx hb hl (names := gX_names) (A := ts_A u s.heap.size) hown hcls gX_fit hk hini hsa (gX_hat hG hX h1 h2) hgood hG.1 hG.2.1 hI.2.2 hsize d0 d3 d4 d6 d9 (fun x h => (hout x h).elim) hRf hRl hRc hRs hlocks (fun t hvm hz hq => ?_) hI.2.2.2.2 hc hs
  refine ⟨(), trivial, ⟨hp, ⟨fun κ i hi => (hI.1.1 κ i hi).kept (hq _ (hI.1.1 κ i hi).lt), hI.1.2⟩, fun q h => ?_⟩, Nat.le_trans hI.2.2.1 hz, fun q h1 h2 => (hq q (Nat.lt_of_lt_of_le h1 hI.2.2.1)).trans (hI.2.2.2.1 q h1 h2)⟩
  rcases h with h | h
  · exact Or.inl h
  · exact Or.inr (Nat.le_trans hI.2.2.1 (Nat.le_trans hz h))
end ZT
abbrev xN_IAE : String := "java/lang/IllegalArgumentException"
set_option maxRecDepth 20000 in
theorem xA_IAE : ∀ w ∈ (vx_atS RX4 52 xN_IAE gX_names).filter (fun w => !goodWord w), w ∈ [.declares (Bundle.initS "java/lang/RuntimeException"), .declares (Bundle.initS "java/lang/Exception"), .declares (Bundle.initS "java/lang/Throwable"), .castable xN_IAE xN_IAE] := by decide +kernel
set_option maxRecDepth 20000 in
theorem xO_IAE : ∀ w ∈ Cond.classLink RX4 48 xN_IAE :: Cond.initialized xN_IAE :: vx_atS RX4 52 xN_IAE gX_names, vx_ot w = true := by decide +kernel
theorem xC_IAE : xN_IAE ∈ gX_cls := by decide +kernel
theorem xF_IAE : Bundle.fit xN_IAE = true := by decide +kernel
abbrev xN_ISE : String := "java/lang/IllegalStateException"
set_option maxRecDepth 20000 in
theorem xA_ISE : ∀ w ∈ (vx_atS RX4 62 xN_ISE gX_names).filter (fun w => !goodWord w), w ∈ [.declares (Bundle.initS "java/lang/RuntimeException"), .declares (Bundle.initS "java/lang/Exception"), .declares (Bundle.initS "java/lang/Throwable"), .castable xN_ISE xN_ISE] := by decide +kernel
set_option maxRecDepth 20000 in
theorem xO_ISE : ∀ w ∈ Cond.classLink RX4 58 xN_ISE :: Cond.initialized xN_ISE :: vx_atS RX4 62 xN_ISE gX_names, vx_ot w = true := by decide +kernel
theorem xC_ISE : xN_ISE ∈ gX_cls := by decide +kernel
theorem xF_ISE : Bundle.fit xN_ISE = true := by decide +kernel
abbrev xN_UOE : String := "java/lang/UnsupportedOperationException"
set_option maxRecDepth 20000 in
theorem xA_UOE : ∀ w ∈ (vx_atS RX4 124 xN_UOE gX_names).filter (fun w => !goodWord w), w ∈ [.declares (Bundle.initS "java/lang/RuntimeException"), .declares (Bundle.initS "java/lang/Exception"), .declares (Bundle.initS "java/lang/Throwable"), .castable xN_UOE xN_UOE] := by decide +kernel
set_option maxRecDepth 20000 in
theorem xO_UOE : ∀ w ∈ Cond.classLink RX4 120 xN_UOE :: Cond.initialized xN_UOE :: vx_atS RX4 124 xN_UOE gX_names, vx_ot w = true := by decide +kernel
theorem xC_UOE : xN_UOE ∈ gX_cls := by decide +kernel
theorem xF_UOE : Bundle.fit xN_UOE = true := by decide +kernel
abbrev xN_NSE : String := "java/util/NoSuchElementException"
set_option maxRecDepth 20000 in
theorem xA_NSE : ∀ w ∈ (vx_atS RX4 146 xN_NSE gX_names).filter (fun w => !goodWord w), w ∈ [.declares (Bundle.initS "java/lang/RuntimeException"), .declares (Bundle.initS "java/lang/Exception"), .declares (Bundle.initS "java/lang/Throwable"), .castable xN_NSE xN_NSE] := by decide +kernel
set_option maxRecDepth 20000 in
theorem xO_NSE : ∀ w ∈ Cond.classLink RX4 142 xN_NSE :: Cond.initialized xN_NSE :: vx_atS RX4 146 xN_NSE gX_names, vx_ot w = true := by decide +kernel
theorem xC_NSE : xN_NSE ∈ gX_cls := by decide +kernel
theorem xF_NSE : Bundle.fit xN_NSE = true := by decide +kernel
abbrev xN_IOB : String := "java/lang/IndexOutOfBoundsException"
set_option maxRecDepth 20000 in
theorem xA_IOB : ∀ w ∈ (vx_atS RX4 172 xN_IOB gX_names).filter (fun w => !goodWord w), w ∈ [.declares (Bundle.initS "java/lang/RuntimeException"), .declares (Bundle.initS "java/lang/Exception"), .declares (Bundle.initS "java/lang/Throwable"), .castable xN_IOB xN_IOB] := by decide +kernel
set_option maxRecDepth 20000 in
theorem xO_IOB : ∀ w ∈ Cond.classLink RX4 168 xN_IOB :: Cond.initialized xN_IOB :: vx_atS RX4 172 xN_IOB gX_names, vx_ot w = true := by decide +kernel
theorem xC_IOB : xN_IOB ∈ gX_cls := by decide +kernel
theorem xF_IOB : Bundle.fit xN_IOB = true := by decide +kernel
abbrev xN_ARE : String := "java/lang/ArithmeticException"
set_option maxRecDepth 20000 in
theorem xA_ARE : ∀ w ∈ (vx_atS RX4 236 xN_ARE gX_names).filter (fun w => !goodWord w), w ∈ [.declares (Bundle.initS "java/lang/RuntimeException"), .declares (Bundle.initS "java/lang/Exception"), .declares (Bundle.initS "java/lang/Throwable"), .castable xN_ARE xN_ARE] := by decide +kernel
set_option maxRecDepth 20000 in
theorem xO_ARE : ∀ w ∈ Cond.classLink RX4 232 xN_ARE :: Cond.initialized xN_ARE :: vx_atS RX4 236 xN_ARE gX_names, vx_ot w = true := by decide +kernel
theorem xC_ARE : xN_ARE ∈ gX_cls := by decide +kernel
theorem xF_ARE : Bundle.fit xN_ARE = true := by decide +kernel
