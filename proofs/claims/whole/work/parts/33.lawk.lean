/-! The law's helpers: methods with an exception table, over the class's store. -/
/-- which exceptions another's handler does not take -/
def gHx : List (String × String) := [("java/lang/IllegalStateException", "java/lang/IllegalArgumentException"), ("java/lang/IndexOutOfBoundsException", "java/util/NoSuchElementException"), ("java/lang/IllegalStateException", "java/util/NoSuchElementException"), ("java/lang/IllegalStateException", "java/lang/IndexOutOfBoundsException"), ("java/lang/UnsupportedOperationException", "java/util/NoSuchElementException"), ("java/lang/UnsupportedOperationException", "java/lang/IndexOutOfBoundsException"), ("java/lang/UnsupportedOperationException", "java/lang/IllegalStateException"), ("java/util/NoSuchElementException", "java/lang/IndexOutOfBoundsException")]
def gH (U : State) : Prop := ∀ q ∈ gHx, va_Nc q.1 q.2 U
theorem gH.moved {u U : State} (hvm : u.vm.Alike U.vm) (h : gH u) : gH U := fun q hq => va_Nc.moved hvm (h q hq)
def zPH (tab : ts_Tab) (D : va_G) (cA : Nat → ClassId) (u : ts_W) (sz : Nat) : State → Prop := fun U => zPX tab D cA u sz U ∧ gH U
theorem zPH_blind {tab : ts_Tab} {D : va_G} {cA : Nat → ClassId} {u : ts_W} {sz : Nat} {av : List Value} : FrameBlind (va_Pc av (zPH tab D cA u sz)) := by
  intro a U g mk h
  obtain ⟨h0, h1, h2⟩ := h
  obtain ⟨k0, k1⟩ := zPX_blind (av := av) a U g mk ⟨h0, h1⟩
  exact ⟨k0, k1, gH.moved (u := U) (U := U.calling g mk a) (Vm.Alike.refl U.vm) h2⟩
/-- a contract from the walk of a body with an exception table -/
theorem zMh_of {l : Launch} {y : MethodName} {ws ws' : List Cond} {rm : Room} {av : List Value} {tab : ts_Tab} {D : va_G} {cA : Nat → ClassId} {u : ts_W} {sz : Nat} {Qc : Array Value → State → Outcome → State → Prop} {mc ms : Nat} {cc : ByteArray} {maxL : Nat} {ret : Option FieldType} {hh : List (Nat × Nat × Nat × Nat)} (hy : plainName y.cls = true) (hw : ws = Cond.codeWith y cc maxL ret hh :: ws') (hlen : (lg_sl av).length ≤ maxL)
    (body : ∀ (p : Program) (e : Env) (s : State) (m : MethodId) (below : List Frame) (meth : Method) (c : Code), p.tables.exec = Jvm.exec → c.code = cc → meth.sig.returnType = ret → (∀ w ∈ ws, w.before av.toArray s = true) → s.vm.findClass y.cls = some m.cls → meth.locks = false → c.maxLocals = maxL → c.exceptionTable.toList = tableOf hh → ts_K tab D cA s → gX (ts_A u sz) s s.heap → gH s → s.heap.size = sz → ∀ (H : Heap) (locs : List Loc), ts_I tab D cA (ts_A u s.heap.size) s.heap u H locs → ∀ ls : Array Slot, lv_has ls maxL (lv_args 0 av) → W p l e (headSpec ws rm).room s m av.toArray below meth c H locs 0 0 (MQ below Qc av.toArray s mc ms (ts_A u sz)) (F0 m 0 ls [])) :
    Met l y ws rm (va_Pc av (zPH tab D cA u sz)) Qc mc ms (ts_A u sz) := by
  refine MetFree.of_bodyS (code := cc) (maxLocals := maxL) (ret := ret) hy ?_ ?_
  · intro args s m h hn
    obtain ⟨m9, meth, c, hn9, h1, h2, h3, h4, -, h5, h6, -⟩ := Cond.codeWith_spec (atoms_spec (ws := ws) h _ (by rw [hw]; exact List.mem_cons_self))
    cases hn.symm.trans hn9
    exact ⟨meth, c, h1, h2, h3, h4, h5, h6⟩
  · intro p e s m args below meth c s₁ B hml hv _
    have hh0 : s₁.heap = s.heap := by rw [B.state]; rfl
    obtain ⟨rfl, ⟨⟨hsz, hP, hK⟩, hG⟩, hN⟩ := hv
    have hts := atoms_spec (ws := ws) B.pre
    have htb : c.exceptionTable.toList = tableOf hh := vx_table (x := y) B (hts _ (by rw [hw]; exact List.mem_cons_self))
    have k := body p e s m below meth c B.exec B.bytes B.returns hts (findClass_of_methodNamed B.named) B.notSynchronized hml htb hK hG hN hsz s.heap [] ⟨hP, fun q h => h, va_S.rf⟩ _ (lv_entry av hlen)
    rw [← lg_entry_eq] at k
    obtain ⟨t, a1, o, b1, b2, b3⟩ := k s₁ hh0 (Stand.of_body B)
    exact ⟨t, o, a1, b1, b2, ⟨b3.1, b3.2⟩⟩
