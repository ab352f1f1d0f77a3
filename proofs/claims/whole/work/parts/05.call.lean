section
variable {p : Program} {l : Launch} {e : Env} {R : Room} {s : State} {m : MethodId} {args : Array Value} {below : List Frame} {meth : Method} {c : Code} {H : Heap} {locs : List Loc} {cells slots : Nat} {Q : State → Prop}
variable {mc ms : Nat} {free : Addr → Prop} {A0 A1 : Nat → Prop} {H0 : Heap} {a : Array Value} {pc : Nat} {ls : Array Slot} {st0 rest : List Value}
theorem vx_callq {S SX : Type} {post : Option Nat → S → Prop} {px : SX → Prop} {B : S → State → Prop} {BX : String → SX → State → Prop} {AX : Nat → Prop} (hr : vx_Run p l e R s m args below meth c H locs cells slots mc ms (F0 m pc ls st0) rest (va_Qq post B A1 a) (vx_X px BX AX) free) (hS : va_S A0 H0 H locs) (hA : ∀ q, q < H.size → A1 q → A0 q) (hf : ∀ q, free q → A0 q) (hAX : ∀ q, q < H.size → AX q → A0 q)
    (kx : ∀ (E : String) (ce : Cell) (q9 : Addr) (u : SX) (t : State) (H1 : Heap) (locs1 : List Loc), t.heap = H1 → s.vm.Alike t.vm → px u → BX E u t → H.size ≤ H1.size → (∀ q : Nat, q < H.size → ¬ AX q → H1[q]? = H[q]?) → va_S A0 H0 H1 locs1 → H1[q9]? = some ce → ce.vm = .none → s.vm.findClass E = some ce.cls → vx_W p l e R s m args below meth c H1 locs1 (cells + mc) (slots + ms) Q (F0 m pc ls rest) q9)
    (kk : ∀ (r : Option Nat) (u : S) (t : State) (H1 : Heap) (locs1 : List Loc), t.heap = H1 → s.vm.Alike t.vm → post r u → B u t → H.size ≤ H1.size → (∀ q : Nat, q < H.size → ¬ A1 q → H1[q]? = H[q]?) → va_S A0 H0 H1 locs1 → W p l e R s m args below meth c H1 locs1 (cells + mc) (slots + ms) Q (F0 m (pc + 3) ls (va_rf r :: rest))) : W p l e R s m args below meth c H locs cells slots Q (F0 m pc ls st0) := by
  intro T hT X
  rcases hr T hT X with ⟨v, st₀, t, T', L, h0, X', hL, e1, e2, ⟨⟨r, u, hv, hp, hb⟩, hF⟩, st⟩ | ⟨q, st₀, t, T', L, E, ce, h0, X', hL, e1, e2, ⟨u, hp, hb, hF⟩, hce, hcv, hcl, st⟩
  · cases hv
    obtain ⟨k1, k2, k3⟩ := vx_keep h0 e1 hS hA hf hL hF
    obtain ⟨t2, a1, b1⟩ := kk r u t T'.heap (locs ++ L) e1.symm (by rw [← e2]; exact X'.warmed.alike) hp hb k1 k2 k3 T' rfl X'
    exact ⟨t2, st t2 a1, b1⟩
  · obtain ⟨k1, k2, k3⟩ := vx_keep h0 e1 hS hAX hf hL hF
    obtain ⟨t2, a1, b1⟩ := kx E ce q u t T'.heap (locs ++ L) e1.symm (by rw [← e2]; exact X'.warmed.alike) hp hb k1 k2 k3 (by rw [e1]; exact hce) hcv hcl T' rfl X'
    exact ⟨t2, st.trans a1, b1⟩
end
/-! Contracts over a typed store, their ends, their calls. -/
def zP (tab : ts_Tab) (D : va_G) (cA : Nat → ClassId) (u : ts_W) (sz : Nat) : State → Prop := fun U => U.heap.size = sz ∧ ts_P tab D cA u U.heap ∧ ts_K tab D cA U
def gX_strs : List (Nat × String) := [(50, "the capacity is out of range"), (60, "there are 4 lanes"), (67, "there is no such kind"), (72, "there are 4 doors"), (77, "the tolerance is out of range"), (79, "a number is out of range"), (84, "the hour or the work is out of range"), (89, "40 appointments have been booked"), (243, "there is no such appointment"), (250, "there is no such lane"), (106, "the appointment is not booked"), (112, "there are 6 trailers in lanes"), (122, "the trailer cannot come into the lane"), (245, "the trailer has not arrived"), (144, "no appointment is booked"), (256, "the trailer is not in a lane"), (258, "the trailer is not reached"), (155, "the trailer is in this lane"), (170, "there is no such door"), (174, "the trailer cannot be docked at the door"), (190, "the trailer is not at a door"), (192, "the work is not done"), (211, "there is no such trailer"), (217, "the trailer cannot be reached with at most 4 moves"), (223, "the number of hours is out of range"), (234, "there are no doors"), (241, "no trailer has arrived")]
/-- what throwing needs: the two statics of Throwable, and the texts -/
def gX_cls : List String := ["java/lang/IllegalArgumentException", "java/lang/IllegalStateException", "java/lang/UnsupportedOperationException", "java/util/NoSuchElementException", "java/lang/IndexOutOfBoundsException", "java/lang/ArithmeticException"]
def gX_dec : List String := ["java/lang/RuntimeException", "java/lang/Exception", "java/lang/Throwable"]
def gX (A : Nat → Prop) (U : State) (H : Heap) : Prop := vx_Zq Bundle.tN "UNASSIGNED_STACK" Bundle.steD A U H ∧ vx_Zq Bundle.tN "SUPPRESSED_SENTINEL" Bundle.listD A U H ∧ (∀ q ∈ gX_strs, ∃ sa : Nat, vk_R RX4 q.1 q.2 sa U) ∧ (∀ X ∈ gX_cls, va_Nw (.castable X X) U) ∧ ∀ X ∈ gX_dec, va_Nw (.declares (Bundle.initS X)) U
def zPX (tab : ts_Tab) (D : va_G) (cA : Nat → ClassId) (u : ts_W) (sz : Nat) : State → Prop := fun U => zP tab D cA u sz U ∧ gX (ts_A u sz) U U.heap
def zBu (tab : ts_Tab) (D : va_G) (cA : Nat → ClassId) (u : ts_W) (sz : Nat) : ts_W → State → Prop := fun u' t => ts_P tab D cA u' t.heap ∧ ∀ q, ts_A u' t.heap.size q → ts_A u sz q
abbrev zQi (tab : ts_Tab) (D : va_G) (cA : Nat → ClassId) (u : ts_W) (sz : Nat) (post : Int → ts_W → Prop) : Array Value → State → Outcome → State → Prop := va_Qi (fun (r : Int32) (u' : ts_W) => ∃ z : Int, r = iZ z ∧ iR z ∧ post z u') (zBu tab D cA u sz) (ts_A u sz)
abbrev zQl (tab : ts_Tab) (D : va_G) (cA : Nat → ClassId) (u : ts_W) (sz : Nat) (post : Int → ts_W → Prop) : Array Value → State → Outcome → State → Prop := va_Ql (fun (r : Int64) (u' : ts_W) => ∃ z : Int, r = lZ z ∧ post z u') (zBu tab D cA u sz) (ts_A u sz)
abbrev zQf (tab : ts_Tab) (D : va_G) (cA : Nat → ClassId) (u : ts_W) (sz : Nat) (post : UInt32 → ts_W → Prop) : Array Value → State → Outcome → State → Prop := va_Qf post (zBu tab D cA u sz) (ts_A u sz)
abbrev zQd (tab : ts_Tab) (D : va_G) (cA : Nat → ClassId) (u : ts_W) (sz : Nat) (post : UInt64 → ts_W → Prop) : Array Value → State → Outcome → State → Prop := va_Qd post (zBu tab D cA u sz) (ts_A u sz)
abbrev zQv (tab : ts_Tab) (D : va_G) (cA : Nat → ClassId) (u : ts_W) (sz : Nat) (post : ts_W → Prop) : Array Value → State → Outcome → State → Prop := va_Qv post (zBu tab D cA u sz) (ts_A u sz)
abbrev zQq (tab : ts_Tab) (D : va_G) (cA : Nat → ClassId) (u : ts_W) (sz : Nat) (k : Nat) (post : Int → ts_W → Prop) : Array Value → State → Outcome → State → Prop := va_Qq (fun (r : Option Nat) (u' : ts_W) => ∃ z : Int, r = ts_R u'.2.1 k z ∧ -1 ≤ z ∧ z < (u'.1 k : Int) ∧ post z u') (zBu tab D cA u sz) (ts_A u sz)
abbrev zXX (tab : ts_Tab) (D : va_G) (cA : Nat → ClassId) (u : ts_W) (sz : Nat) (px : String → Prop) : String → State → State → Prop := vx_X (fun (_ : Unit) => True) (fun (E : String) (_ : Unit) (t : State) => px E ∧ zBu tab D cA u sz u t) (ts_A u sz)
theorem zP_blind {tab : ts_Tab} {D : va_G} {cA : Nat → ClassId} {u : ts_W} {sz : Nat} {av : List Value} : FrameBlind (va_Pc av (zP tab D cA u sz)) := by
  intro a U g mk h
  obtain ⟨h0, h1, h2, h3⟩ := h
  exact ⟨h0, h1, h2, va_K.moved (u := U) (U := U.calling g mk a) (Vm.Alike.refl U.vm) h3.1, fun κ q hq => ⟨⟨arrOfT_moved (u := U) (E := U.calling g mk a) (Vm.Alike.refl U.vm) (h3.2 κ q hq).1.1, va_RA.moved (u := U) (U := U.calling g mk a) (Vm.Alike.refl U.vm) (h3.2 κ q hq).1.2⟩, fun C hC => va_AO.moved (u := U) (U := U.calling g mk a) (Vm.Alike.refl U.vm) ((h3.2 κ q hq).2 C hC)⟩⟩
theorem ts_K.moved {tab : ts_Tab} {D : va_G} {cA : Nat → ClassId} {u U : State} (hvm : u.vm.Alike U.vm) (h : ts_K tab D cA u) : ts_K tab D cA U := ⟨va_K.moved hvm h.1, fun κ q hq => ⟨⟨arrOfT_moved hvm (h.2 κ q hq).1.1, va_RA.moved hvm (h.2 κ q hq).1.2⟩, fun C hC => va_AO.moved hvm ((h.2 κ q hq).2 C hC)⟩⟩
theorem gX.narrow {A B : Nat → Prop} {U : State} {H : Heap} (h : gX A U H) (hAB : ∀ q, B q → A q) : gX B U H := ⟨h.1.narrow hAB, h.2.1.narrow hAB, h.2.2⟩
theorem gX.kept {A : Nat → Prop} {U : State} {H H1 : Heap} (h : gX A U H) (hq : ∀ a : Nat, a < H.size → ¬ A a → H1[a]? = H[a]?) : gX A U H1 := ⟨h.1.kept hq, h.2.1.kept hq, h.2.2⟩
theorem gX.warm {A : Nat → Prop} {s U : State} {H : Heap} (hW : s.WarmedH U.vm) (h : gX A s H) : gX A U H := ⟨h.1.moved hW.alike, h.2.1.moved hW.alike, fun q hq => by
  obtain ⟨sa, h1⟩ := h.2.2.1 q hq
  exact ⟨sa, vk_R.warm hW h1⟩, fun X hX => va_Nw.warmC hW (h.2.2.2.1 X hX), fun X hX => va_Nw.warmD hW (h.2.2.2.2 X hX)⟩
theorem zPX_blind {tab : ts_Tab} {D : va_G} {cA : Nat → ClassId} {u : ts_W} {sz : Nat} {av : List Value} : FrameBlind (va_Pc av (zPX tab D cA u sz)) := by
  intro a U g mk h
  obtain ⟨h0, h1, h2, h3, h4, h5, h6⟩ := h
  have hb := zP_blind (av := av) a U g mk ⟨h0, h1⟩
  refine ⟨h0, hb.2, ?_, ?_, ?_, fun X hX => va_Nw.same (u := U) (U := U.calling g mk a) rfl rfl (h5 X hX), fun X hX => va_Nw.same (u := U) (U := U.calling g mk a) rfl rfl (h6 X hX)⟩
  · exact vx_Zq.moved (u := U) (U := U.calling g mk a) (Vm.Alike.refl U.vm) h2
  · exact vx_Zq.moved (u := U) (U := U.calling g mk a) (Vm.Alike.refl U.vm) h3
  · intro q hq
    obtain ⟨sa, h5⟩ := h4 q hq
    exact ⟨sa, vk_R.same (u := U) (U := U.calling g mk a) rfl h5⟩
section ZC
variable {p : Program} {l : Launch} {e : Env} {R : Room} {s : State} {m : MethodId} {args : Array Value} {below : List Frame} {meth : Method} {c : Code} {H : Heap} {locs : List Loc} {cells slots : Nat} {Q : State → Prop} {cc : ByteArray} {pc : Nat} {ls : Array Slot} {rest st0 : List Value} {a : Array Value}
variable {tab : ts_Tab} {D : va_G} {cA : Nat → ClassId} {A : Nat → Prop} {H0 : Heap} {n : Nat → Nat} {am : ts_Am} {S0 : ts_St} {u u' : ts_W} {κ i : Nat}
variable {y : MethodName} {bytes : ByteArray} {maxL nL mc ms index : Nat} {ret : Option FieldType} {ws : List Cond} {rm : Room} {Qc : Array Value → State → Outcome → State → Prop} {XC : String → State → State → Prop} {free : Addr → Prop} {Ts : List Cond} {own : String} {As : List Value}
theorem ts_recv {C : String} {T : u_T} {N ci : Nat} {ts : List Nat} (hK : ts_K tab D cA s) (hI : ts_I tab D cA A H0 (n, am, S0) H locs) (hi : i < n κ) (htab : tab κ = .inl (ci, ts)) (hc : vwCl[ci]? = some (C, T, N)) : ∃ cell : Cell, H[am κ i]? = some cell ∧ cell.vm.isStatics = false ∧ s.vm.findClass C = some cell.cls := by
  have h1 := hI.1.1 κ i hi
  dsimp only at h1
  rw [ts_E_obj htab] at h1
  have hP : va_P D vwCl [(am κ i, .inr (ci, ts_L am (S0 κ i) 0 ts))] H := fun j q hj => by
    have hz : j < 1 := (List.getElem?_eq_some_iff.mp hj).1
    rw [show j = 0 by omega] at hj
    cases hj
    exact h1
  exact va_recv hK.1 hP (ci := ci) (q0 := 0) hc rfl
theorem zPre (hK : ts_K tab D cA s) (hI : ts_I tab D cA A H0 u H locs) {av : List Value} (U : State) (hU : U.heap = H) (hW : s.WarmedH U.vm) : va_Pc av (zP tab D cA u H.size) av.toArray U := ⟨rfl, by rw [hU], by rw [hU]; exact hI.1, hK.moved hW.alike⟩
theorem zPreX (hK : ts_K tab D cA s) (hI : ts_I tab D cA A s.heap u H locs) (hG : gX A s s.heap) {av : List Value} (U : State) (hU : U.heap = H) (hW : s.WarmedH U.vm) : va_Pc av (zPX tab D cA u H.size) av.toArray U := by
  refine ⟨rfl, (zPre (av := av) hK hI U hU hW).2, ?_⟩
  rw [hU]
  exact ((hG.kept (fun q h1 h2 => hI.2.2.2.1 q h1 h2)).warm hW).narrow (fun q h => hI.2.1 q h)
/-- calls that don't throw -/
theorem zrV {C : String} {T : u_T} {N ci k : Nat} {ts : List Nat} (S : CallFix p m c cc nL s args Ts own) (hM : Met l y ws rm (va_Pc (.ref (am κ i) :: As) (zP tab D cA (n, am, S0) H.size)) Qc mc ms free) (cw : CallW R s args own C index y bytes maxL ret ws rm mc ms k) (hK : ts_K tab D cA s) (hI : ts_I tab D cA A H0 (n, am, S0) H locs) (hi : i < n κ) (htab : tab κ = .inl (ci, ts)) (hc : vwCl[ci]? = some (C, T, N))
    (hn : As.length = k) (hsize : ls.size = nL) (hstack : st0 = As.reverse ++ .ref (am κ i) :: rest) (hW : (rest.map fun v => v.category).sum ≤ 8) (hdg : decode cc pc = .ok (.invokevirtual index, 3)) (hf : cells + mc ≤ R.cells ∧ slots + ms ≤ R.slots) :
    va_Run p l e R s m args below meth c H locs cells slots mc ms (F0 m pc ls st0) rest (Qc (Value.ref (am κ i) :: As).toArray) free :=
  va_runV S hM cw ⟨zP_blind, ts_recv hK hI hi htab hc, fun U hU hW => zPre hK hI U hU hW⟩ rfl hn hsize hstack (lv_room hW) hdg hf
theorem zrS {k : Nat} (S : CallFix p m c cc nL s args Ts own) (hM : Met l y ws rm (va_Pc As (zP tab D cA u H.size)) Qc mc ms free) (cw : CallB R s args own index y bytes maxL ret ws rm mc ms k ∧ (Cond.static y).before args s = true) (hK : ts_K tab D cA s) (hI : ts_I tab D cA A H0 u H locs)
    (hn : As.length = k) (hsize : ls.size = nL) (hstack : st0 = As.reverse ++ rest) (hW : (rest.map fun v => v.category).sum ≤ 8) (hdg : decode cc pc = .ok (.invokestatic index, 3)) (hf : cells + mc ≤ R.cells ∧ slots + ms ≤ R.slots) :
    va_Run p l e R s m args below meth c H locs cells slots mc ms (F0 m pc ls st0) rest (Qc As.toArray) free :=
  va_runS S hM cw ⟨zP_blind, fun U hU hW => zPre hK hI U hU hW⟩ rfl hn hsize hstack (lv_room hW) hdg hf
theorem zrI {b k : Nat} (S : CallFix p m c cc nL s args Ts own) (hM : Met l y ws rm (va_Pc (.ref b :: As) (zP tab D cA u H.size)) Qc mc ms free) (cw : CallB R s args own index y bytes maxL none ws rm mc ms k ∧ y.name = "<init>" ∧ (Cond.instanceMethod y).before args s = true) (hK : ts_K tab D cA s) (hI : ts_I tab D cA A H0 u H locs)
    (hn : As.length = k) (hsize : ls.size = nL) (hstack : st0 = As.reverse ++ .ref b :: rest) (hW : (rest.map fun v => v.category).sum ≤ 8) (hdg : decode cc pc = .ok (.invokespecial index, 3)) (hf : cells + mc ≤ R.cells ∧ slots + ms ≤ R.slots) :
    va_Run p l e R s m args below meth c H locs cells slots mc ms (F0 m pc ls st0) rest (Qc (Value.ref b :: As).toArray) free :=
  va_runI S hM cw ⟨zP_blind, fun U hU hW => zPre hK hI U hU hW⟩ rfl hn hsize hstack (lv_room hW) hdg hf
/-- calls that may throw -/
theorem zxV {C : String} {T : u_T} {N ci k : Nat} {ts : List Nat} (S : CallFix p m c cc nL s args Ts own) (hM : vx_Met l y ws rm (va_Pc (.ref (am κ i) :: As) (zPX tab D cA (n, am, S0) H.size)) Qc XC mc ms free) (cw : CallW R s args own C index y bytes maxL ret ws rm mc ms k) (hK : ts_K tab D cA s) (hI : ts_I tab D cA A s.heap (n, am, S0) H locs) (hG : gX A s s.heap) (hi : i < n κ) (htab : tab κ = .inl (ci, ts)) (hc : vwCl[ci]? = some (C, T, N))
    (hn : As.length = k) (hsize : ls.size = nL) (hstack : st0 = As.reverse ++ .ref (am κ i) :: rest) (hW : (rest.map fun v => v.category).sum ≤ 8) (hdg : decode cc pc = .ok (.invokevirtual index, 3)) (hf : cells + mc ≤ R.cells ∧ slots + ms ≤ R.slots) :
    vx_Run p l e R s m args below meth c H locs cells slots mc ms (F0 m pc ls st0) rest (Qc (Value.ref (am κ i) :: As).toArray) XC free :=
  vx_runV S hM cw ⟨zPX_blind, ts_recv hK hI hi htab hc, fun U hU hW => zPreX hK hI hG U hU hW⟩ rfl hn hsize hstack (lv_room hW) hdg hf
theorem zxS {k : Nat} (S : CallFix p m c cc nL s args Ts own) (hM : vx_Met l y ws rm (va_Pc As (zPX tab D cA u H.size)) Qc XC mc ms free) (cw : CallB R s args own index y bytes maxL ret ws rm mc ms k ∧ (Cond.static y).before args s = true) (hK : ts_K tab D cA s) (hI : ts_I tab D cA A s.heap u H locs) (hG : gX A s s.heap)
    (hn : As.length = k) (hsize : ls.size = nL) (hstack : st0 = As.reverse ++ rest) (hW : (rest.map fun v => v.category).sum ≤ 8) (hdg : decode cc pc = .ok (.invokestatic index, 3)) (hf : cells + mc ≤ R.cells ∧ slots + ms ≤ R.slots) :
    vx_Run p l e R s m args below meth c H locs cells slots mc ms (F0 m pc ls st0) rest (Qc As.toArray) XC free :=
  vx_runS S hM cw ⟨zPX_blind, fun U hU hW => zPreX hK hI hG U hU hW⟩ rfl hn hsize hstack (lv_room hW) hdg hf
/-- behind a call -/
theorem zc_i {post : Int → ts_W → Prop} (hr : va_Run p l e R s m args below meth c H locs cells slots mc ms (F0 m pc ls st0) rest (zQi tab D cA u H.size post a) (ts_A u H.size)) (hI : ts_I tab D cA A H0 u H locs)
    (kk : ∀ (z : Int) (u' : ts_W) (H1 : Heap) (locs1 : List Loc), iR z → post z u' → ts_I tab D cA A H0 u' H1 locs1 → (∀ q : Nat, q < H.size → ¬ ts_A u H.size q → H1[q]? = H[q]?) → W p l e R s m args below meth c H1 locs1 (cells + mc) (slots + ms) Q (F0 m (pc + 3) ls (.int (iZ z) :: rest))) : W p l e R s m args below meth c H locs cells slots Q (F0 m pc ls st0) :=
  va_calli hr hI.2.2 (fun q _ h => hI.2.1 q h) (fun q h => hI.2.1 q h) (fun r u1 t H1 locs1 ht hvm hp hB hz hk hS => by
    obtain ⟨z, rfl, hz2, hp⟩ := hp
    subst ht
    exact kk z u1 _ locs1 hz2 hp ⟨hB.1, fun q h => hI.2.1 q (hB.2 q h), hS⟩ hk)
theorem zc_l {post : Int → ts_W → Prop} (hr : va_Run p l e R s m args below meth c H locs cells slots mc ms (F0 m pc ls st0) rest (zQl tab D cA u H.size post a) (ts_A u H.size)) (hI : ts_I tab D cA A H0 u H locs)
    (kk : ∀ (z : Int) (u' : ts_W) (H1 : Heap) (locs1 : List Loc), post z u' → ts_I tab D cA A H0 u' H1 locs1 → (∀ q : Nat, q < H.size → ¬ ts_A u H.size q → H1[q]? = H[q]?) → W p l e R s m args below meth c H1 locs1 (cells + mc) (slots + ms) Q (F0 m (pc + 3) ls (.long (lZ z) :: rest))) : W p l e R s m args below meth c H locs cells slots Q (F0 m pc ls st0) :=
  va_calll hr hI.2.2 (fun q _ h => hI.2.1 q h) (fun q h => hI.2.1 q h) (fun r u1 t H1 locs1 ht hvm hp hB hz hk hS => by
    obtain ⟨z, rfl, hp⟩ := hp
    subst ht
    exact kk z u1 _ locs1 hp ⟨hB.1, fun q h => hI.2.1 q (hB.2 q h), hS⟩ hk)
theorem zc_f {post : UInt32 → ts_W → Prop} (hr : va_Run p l e R s m args below meth c H locs cells slots mc ms (F0 m pc ls st0) rest (zQf tab D cA u H.size post a) (ts_A u H.size)) (hI : ts_I tab D cA A H0 u H locs)
    (kk : ∀ (z : UInt32) (u' : ts_W) (H1 : Heap) (locs1 : List Loc), post z u' → ts_I tab D cA A H0 u' H1 locs1 → (∀ q : Nat, q < H.size → ¬ ts_A u H.size q → H1[q]? = H[q]?) → W p l e R s m args below meth c H1 locs1 (cells + mc) (slots + ms) Q (F0 m (pc + 3) ls (.float z :: rest))) : W p l e R s m args below meth c H locs cells slots Q (F0 m pc ls st0) :=
  va_callf hr hI.2.2 (fun q _ h => hI.2.1 q h) (fun q h => hI.2.1 q h) (fun r u1 t H1 locs1 ht hvm hp hB hz hk hS => by
    subst ht
    exact kk r u1 _ locs1 hp ⟨hB.1, fun q h => hI.2.1 q (hB.2 q h), hS⟩ hk)
theorem zc_d {post : UInt64 → ts_W → Prop} (hr : va_Run p l e R s m args below meth c H locs cells slots mc ms (F0 m pc ls st0) rest (zQd tab D cA u H.size post a) (ts_A u H.size)) (hI : ts_I tab D cA A H0 u H locs)
    (kk : ∀ (z : UInt64) (u' : ts_W) (H1 : Heap) (locs1 : List Loc), post z u' → ts_I tab D cA A H0 u' H1 locs1 → (∀ q : Nat, q < H.size → ¬ ts_A u H.size q → H1[q]? = H[q]?) → W p l e R s m args below meth c H1 locs1 (cells + mc) (slots + ms) Q (F0 m (pc + 3) ls (.double z :: rest))) : W p l e R s m args below meth c H locs cells slots Q (F0 m pc ls st0) :=
  va_calld hr hI.2.2 (fun q _ h => hI.2.1 q h) (fun q h => hI.2.1 q h) (fun r u1 t H1 locs1 ht hvm hp hB hz hk hS => by
    subst ht
    exact kk r u1 _ locs1 hp ⟨hB.1, fun q h => hI.2.1 q (hB.2 q h), hS⟩ hk)
theorem zc_v {post : ts_W → Prop} (hr : va_Run p l e R s m args below meth c H locs cells slots mc ms (F0 m pc ls st0) rest (zQv tab D cA u H.size post a) (ts_A u H.size)) (hI : ts_I tab D cA A H0 u H locs)
    (kk : ∀ (u' : ts_W) (H1 : Heap) (locs1 : List Loc), post u' → ts_I tab D cA A H0 u' H1 locs1 → (∀ q : Nat, q < H.size → ¬ ts_A u H.size q → H1[q]? = H[q]?) → W p l e R s m args below meth c H1 locs1 (cells + mc) (slots + ms) Q (F0 m (pc + 3) ls rest)) : W p l e R s m args below meth c H locs cells slots Q (F0 m pc ls st0) :=
  va_callv hr hI.2.2 (fun q _ h => hI.2.1 q h) (fun q h => hI.2.1 q h) (fun u1 t H1 locs1 ht hvm hp hB hz hk hS => by
    subst ht
    exact kk u1 _ locs1 hp ⟨hB.1, fun q h => hI.2.1 q (hB.2 q h), hS⟩ hk)
theorem ts_rf_r {am : ts_Am} {k : Nat} {z : Int} (h : 0 ≤ z) : va_rf (ts_R am k z) = .ref (am k z.toNat) := by
  unfold ts_R
  rw [if_neg (by omega)]
  rfl
theorem ts_rf_n {am : ts_Am} {k : Nat} {z : Int} (h : z < 0) : va_rf (ts_R am k z) = .null := by
  unfold ts_R
  rw [if_pos h]
  rfl
theorem zc_q {k : Nat} {post : Int → ts_W → Prop} (hr : va_Run p l e R s m args below meth c H locs cells slots mc ms (F0 m pc ls st0) rest (zQq tab D cA u H.size k post a) (ts_A u H.size)) (hI : ts_I tab D cA A H0 u H locs)
    (kn : ∀ (u' : ts_W) (H1 : Heap) (locs1 : List Loc), post (-1) u' → ts_I tab D cA A H0 u' H1 locs1 → (∀ q : Nat, q < H.size → ¬ ts_A u H.size q → H1[q]? = H[q]?) → W p l e R s m args below meth c H1 locs1 (cells + mc) (slots + ms) Q (F0 m (pc + 3) ls (.null :: rest)))
    (kk : ∀ (j : Nat) (u' : ts_W) (H1 : Heap) (locs1 : List Loc), j < u'.1 k → post (j : Int) u' → ts_I tab D cA A H0 u' H1 locs1 → (∀ q : Nat, q < H.size → ¬ ts_A u H.size q → H1[q]? = H[q]?) → W p l e R s m args below meth c H1 locs1 (cells + mc) (slots + ms) Q (F0 m (pc + 3) ls (.ref (u'.2.1 k j) :: rest))) : W p l e R s m args below meth c H locs cells slots Q (F0 m pc ls st0) :=
  va_callq hr hI.2.2 (fun q _ h => hI.2.1 q h) (fun q h => hI.2.1 q h) (fun r u1 t H1 locs1 ht hvm hp hB hz hk hS => by
    obtain ⟨z, rfl, hz1, hz2, hp⟩ := hp
    subst ht
    by_cases h0 : z < 0
    · rw [ts_rf_n h0]
      obtain rfl : z = -1 := by omega
      exact kn u1 _ locs1 hp ⟨hB.1, fun q h => hI.2.1 q (hB.2 q h), hS⟩ hk
    · obtain ⟨j, rfl⟩ := Int.eq_ofNat_of_zero_le (Int.not_lt.mp h0)
      rw [ts_rf_r (Int.not_lt.mp h0)]
      exact kk j u1 _ locs1 (by omega) hp ⟨hB.1, fun q h => hI.2.1 q (hB.2 q h), hS⟩ hk)
/-- behind a call that may throw; a throw goes on to the caller -/
theorem zx_out {Qc0 : Array Value → State → Outcome → State → Prop} {px : String → Prop} {E : String} {ce : Cell} {q : Addr} {mc0 ms0 : Nat} (hI : ts_I tab D cA (ts_A u s.heap.size) s.heap u H locs) (hout : ∀ x ∈ c.exceptionTable.toList, False) (hlocks : meth.locks = false) (hcell : H[q]? = some ce) (hv : ce.vm = .none) (hcl : s.vm.findClass E = some ce.cls) (hp : px E) (hc : cells ≤ mc0) (hs : slots ≤ ms0) :
    vx_W p l e R s m args below meth c H locs cells slots (vx_MQ below Qc0 (zXX tab D cA u s.heap.size px) args s mc0 ms0 (ts_A u s.heap.size)) (F0 m pc ls rest) q :=
  vx_out (fun x h => (hout x h).elim) hlocks hcell hv hcl (fun t ht hvm => ⟨(), trivial, ⟨hp, by rw [ht]; exact hI.1, by rw [ht]; exact hI.2.1⟩, hI.2.2.F ht⟩) hI.2.2.2.2 hc hs
theorem zxc_i {post : Int → ts_W → Prop} {Qc0 : Array Value → State → Outcome → State → Prop} {px px0 : String → Prop} {mc0 ms0 : Nat} (hr : vx_Run p l e R s m args below meth c H locs cells slots mc ms (F0 m pc ls st0) rest (zQi tab D cA u H.size post a) (zXX tab D cA u H.size px) (ts_A u H.size)) (hI : ts_I tab D cA (ts_A u s.heap.size) s.heap u H locs) (hout : ∀ x ∈ c.exceptionTable.toList, False) (hlocks : meth.locks = false) (hpx : ∀ E, px E → px0 E) (hc : cells + mc ≤ mc0) (hs : slots + ms ≤ ms0)
    (kk : ∀ (z : Int) (u' : ts_W) (H1 : Heap) (locs1 : List Loc), iR z → post z u' → ts_I tab D cA (ts_A u s.heap.size) s.heap u' H1 locs1 → W p l e R s m args below meth c H1 locs1 (cells + mc) (slots + ms) (vx_MQ below Qc0 (zXX tab D cA u s.heap.size px0) args s mc0 ms0 (ts_A u s.heap.size)) (F0 m (pc + 3) ls (.int (iZ z) :: rest))) : W p l e R s m args below meth c H locs cells slots (vx_MQ below Qc0 (zXX tab D cA u s.heap.size px0) args s mc0 ms0 (ts_A u s.heap.size)) (F0 m pc ls st0) :=
  vx_calli hr hI.2.2 (fun q _ h => hI.2.1 q h) (fun q h => hI.2.1 q h) (fun q _ h => hI.2.1 q h) (fun E ce q9 u1 t H1 locs1 ht hvm _ hB hz hk hS hcell hv hcl => by
    subst ht
    exact zx_out ⟨hB.2.1, fun q h => hI.2.1 q (hB.2.2 q h), hS⟩ hout hlocks hcell hv hcl (hpx E hB.1) hc hs) (fun r u1 t H1 locs1 ht hvm hp hB hz hk hS => by
    obtain ⟨z, rfl, hz2, hp⟩ := hp
    subst ht
    exact kk z u1 _ locs1 hz2 hp ⟨hB.1, fun q h => hI.2.1 q (hB.2 q h), hS⟩)
theorem zxc_q {k : Nat} {post : Int → ts_W → Prop} {Qc0 : Array Value → State → Outcome → State → Prop} {px px0 : String → Prop} {mc0 ms0 : Nat} (hr : vx_Run p l e R s m args below meth c H locs cells slots mc ms (F0 m pc ls st0) rest (zQq tab D cA u H.size k post a) (zXX tab D cA u H.size px) (ts_A u H.size)) (hI : ts_I tab D cA (ts_A u s.heap.size) s.heap u H locs) (hout : ∀ x ∈ c.exceptionTable.toList, False) (hlocks : meth.locks = false) (hpx : ∀ E, px E → px0 E) (hc : cells + mc ≤ mc0) (hs : slots + ms ≤ ms0) (hnn : ∀ z u', post z u' → 0 ≤ z)
    (kk : ∀ (j : Nat) (u' : ts_W) (H1 : Heap) (locs1 : List Loc), j < u'.1 k → post (j : Int) u' → ts_I tab D cA (ts_A u s.heap.size) s.heap u' H1 locs1 → W p l e R s m args below meth c H1 locs1 (cells + mc) (slots + ms) (vx_MQ below Qc0 (zXX tab D cA u s.heap.size px0) args s mc0 ms0 (ts_A u s.heap.size)) (F0 m (pc + 3) ls (.ref (u'.2.1 k j) :: rest))) : W p l e R s m args below meth c H locs cells slots (vx_MQ below Qc0 (zXX tab D cA u s.heap.size px0) args s mc0 ms0 (ts_A u s.heap.size)) (F0 m pc ls st0) :=
  vx_callq hr hI.2.2 (fun q _ h => hI.2.1 q h) (fun q h => hI.2.1 q h) (fun q _ h => hI.2.1 q h) (fun E ce q9 u1 t H1 locs1 ht hvm _ hB hz hk hS hcell hv hcl => by
    subst ht
    exact zx_out ⟨hB.2.1, fun q h => hI.2.1 q (hB.2.2 q h), hS⟩ hout hlocks hcell hv hcl (hpx E hB.1) hc hs) (fun r u1 t H1 locs1 ht hvm hp hB hz hk hS => by
    obtain ⟨z, rfl, -, hz2, hp⟩ := hp
    subst ht
    obtain ⟨j, rfl⟩ := Int.eq_ofNat_of_zero_le (hnn z u1 hp)
    rw [ts_rf_r (hnn _ u1 hp)]
    exact kk j u1 _ locs1 (by omega) hp ⟨hB.1, fun q h => hI.2.1 q (hB.2 q h), hS⟩)
/-- ends -/
theorem ze_i {post : Int → ts_W → Prop} {ty : FieldType} {z : Int} (hx : p.tables.exec = Jvm.exec) (hb : c.code = cc) (hr : meth.sig.returnType = some ty) (hn : narrow ty (.int (iZ z)) = .int (iZ z)) (hI : ts_I tab D cA (ts_A u s.heap.size) s.heap u' H locs) (hz : iR z) (hp : post z u') (hc : cells ≤ mc) (hs : slots ≤ ms) (hdg : decode cc pc = .ok (.ireturn, 1)) (hlocks : meth.locks = false) : W p l e R s m args below meth c H locs cells slots (MQ below (zQi tab D cA u s.heap.size post) args s mc ms (ts_A u s.heap.size)) (F0 m pc ls [.int (iZ z)]) :=
  W.widen hc hs (W.zret hx hb hr hn (fun t ht hW => ⟨⟨iZ z, u', rfl, ⟨z, rfl, hz, hp⟩, by rw [ht]; exact hI.1, by rw [ht]; exact hI.2.1⟩, hI.2.2.F ht⟩) hI.2.2.2.2 hdg hlocks)
theorem ze_l {post : Int → ts_W → Prop} {z : Int} (hx : p.tables.exec = Jvm.exec) (hb : c.code = cc) (hr : meth.sig.returnType = some .long) (hI : ts_I tab D cA (ts_A u s.heap.size) s.heap u' H locs) (hp : post z u') (hc : cells ≤ mc) (hs : slots ≤ ms) (hdg : decode cc pc = .ok (.lreturn, 1)) (hlocks : meth.locks = false) : W p l e R s m args below meth c H locs cells slots (MQ below (zQl tab D cA u s.heap.size post) args s mc ms (ts_A u s.heap.size)) (F0 m pc ls [.long (lZ z)]) :=
  W.widen hc hs (W.lret hx hb hr (fun t ht hW => ⟨⟨lZ z, u', rfl, ⟨z, rfl, hp⟩, by rw [ht]; exact hI.1, by rw [ht]; exact hI.2.1⟩, hI.2.2.F ht⟩) hI.2.2.2.2 hdg hlocks)
theorem ze_f {post : UInt32 → ts_W → Prop} {z : UInt32} (hx : p.tables.exec = Jvm.exec) (hb : c.code = cc) (hr : meth.sig.returnType = some .float) (hI : ts_I tab D cA (ts_A u s.heap.size) s.heap u' H locs) (hp : post z u') (hc : cells ≤ mc) (hs : slots ≤ ms) (hdg : decode cc pc = .ok (.freturn, 1)) (hlocks : meth.locks = false) : W p l e R s m args below meth c H locs cells slots (MQ below (zQf tab D cA u s.heap.size post) args s mc ms (ts_A u s.heap.size)) (F0 m pc ls [.float z]) :=
  W.widen hc hs (W.fret hx hb hr (fun t ht hW => ⟨⟨z, u', rfl, hp, by rw [ht]; exact hI.1, by rw [ht]; exact hI.2.1⟩, hI.2.2.F ht⟩) hI.2.2.2.2 hdg hlocks)
theorem ze_d {post : UInt64 → ts_W → Prop} {z : UInt64} (hx : p.tables.exec = Jvm.exec) (hb : c.code = cc) (hr : meth.sig.returnType = some .double) (hI : ts_I tab D cA (ts_A u s.heap.size) s.heap u' H locs) (hp : post z u') (hc : cells ≤ mc) (hs : slots ≤ ms) (hdg : decode cc pc = .ok (.dreturn, 1)) (hlocks : meth.locks = false) : W p l e R s m args below meth c H locs cells slots (MQ below (zQd tab D cA u s.heap.size post) args s mc ms (ts_A u s.heap.size)) (F0 m pc ls [.double z]) :=
  W.widen hc hs (W.dret hx hb hr (fun t ht hW => ⟨⟨z, u', rfl, hp, by rw [ht]; exact hI.1, by rw [ht]; exact hI.2.1⟩, hI.2.2.F ht⟩) hI.2.2.2.2 hdg hlocks)
theorem ze_v {post : ts_W → Prop} (hx : p.tables.exec = Jvm.exec) (hb : c.code = cc) (hr : meth.sig.returnType = none) (hI : ts_I tab D cA (ts_A u s.heap.size) s.heap u' H locs) (hp : post u') (hc : cells ≤ mc) (hs : slots ≤ ms) (hdg : decode cc pc = .ok (.return_, 1)) (hlocks : meth.locks = false) : W p l e R s m args below meth c H locs cells slots (MQ below (zQv tab D cA u s.heap.size post) args s mc ms (ts_A u s.heap.size)) (F0 m pc ls []) :=
  W.widen hc hs (W.vret hx hb hr (fun t ht hW => ⟨⟨u', rfl, hp, by rw [ht]; exact hI.1, by rw [ht]; exact hI.2.1⟩, hI.2.2.F ht⟩) hI.2.2.2.2 hdg hlocks)
theorem ze_q {post : Int → ts_W → Prop} {ty : FieldType} {k : Nat} {z : Int} {v : Value} (hx : p.tables.exec = Jvm.exec) (hb : c.code = cc) (hr : meth.sig.returnType = some ty) (hrt : (∃ n, ty = .object n) ∨ ∃ t, ty = .array t) (hI : ts_I tab D cA (ts_A u s.heap.size) s.heap u' H locs) (hv : v = va_rf (ts_R u'.2.1 k z)) (hz1 : -1 ≤ z) (hz : z < (u'.1 k : Int)) (hp : post z u') (hc : cells ≤ mc) (hs : slots ≤ ms) (hdg : decode cc pc = .ok (.areturn, 1)) (hlocks : meth.locks = false) : W p l e R s m args below meth c H locs cells slots (MQ below (zQq tab D cA u s.heap.size k post) args s mc ms (ts_A u s.heap.size)) (F0 m pc ls [v]) := by
  subst hv
  refine W.widen hc hs (W.aret hx hb hr hrt ?_ (fun t ht hW => ⟨⟨ts_R u'.2.1 k z, u', rfl, ⟨z, rfl, hz1, hz, hp⟩, by rw [ht]; exact hI.1, by rw [ht]; exact hI.2.1⟩, hI.2.2.F ht⟩) hI.2.2.2.2 hdg hlocks)
  cases ts_R u'.2.1 k z with
  | none => exact Or.inl rfl
  | some q => exact Or.inr ⟨q, rfl⟩
end ZC
/-- a contract from the walk of its body -/
theorem zM_of {l : Launch} {y : MethodName} {ws ws' : List Cond} {rm : Room} {av : List Value} {tab : ts_Tab} {D : va_G} {cA : Nat → ClassId} {u : ts_W} {sz : Nat} {Qc : Array Value → State → Outcome → State → Prop} {mc ms : Nat} {cc : ByteArray} {maxL : Nat} {ret : Option FieldType} (hy : plainName y.cls = true) (hw : ws = Cond.code y cc maxL ret :: ws') (hlen : (lg_sl av).length ≤ maxL)
    (body : ∀ (p : Program) (e : Env) (s : State) (m : MethodId) (below : List Frame) (meth : Method) (c : Code), p.tables.exec = Jvm.exec → c.code = cc → meth.sig.returnType = ret → (∀ w ∈ ws, w.before av.toArray s = true) → s.vm.findClass y.cls = some m.cls → meth.locks = false → c.maxLocals = maxL → (meth.name = y.name) → ts_K tab D cA s → s.heap.size = sz → ∀ (H : Heap) (locs : List Loc), ts_I tab D cA (ts_A u s.heap.size) s.heap u H locs → ∀ ls : Array Slot, lv_has ls maxL (lv_args 0 av) → W p l e (headSpec ws rm).room s m av.toArray below meth c H locs 0 0 (MQ below Qc av.toArray s mc ms (ts_A u sz)) (F0 m 0 ls [])) :
    Met l y ws rm (va_Pc av (zP tab D cA u sz)) Qc mc ms (ts_A u sz) := by
  refine Met.ofW hy hw ?_
  intro p e s m args below meth c s₁ B hml hv
  obtain ⟨rfl, hsz, hP, hK⟩ := hv
  rw [lg_entry_eq]
  refine body p e s m below meth c B.exec B.bytes B.returns (atoms_spec (ws := ws) B.pre) (findClass_of_methodNamed B.named) B.notSynchronized hml (name_of_methodNamed B.named B.method).1 hK hsz _ _ ⟨hP, fun q h => h, va_S.rf⟩ _ ?_
  exact lv_entry av hlen
theorem zMx_of {l : Launch} {y : MethodName} {ws ws' : List Cond} {rm : Room} {av : List Value} {tab : ts_Tab} {D : va_G} {cA : Nat → ClassId} {u : ts_W} {sz : Nat} {Qc : Array Value → State → Outcome → State → Prop} {XC : String → State → State → Prop} {mc ms : Nat} {cc : ByteArray} {maxL : Nat} {ret : Option FieldType} (hy : plainName y.cls = true) (hw : ws = Cond.code y cc maxL ret :: ws') (hlen : (lg_sl av).length ≤ maxL)
    (body : ∀ (p : Program) (e : Env) (s : State) (m : MethodId) (below : List Frame) (meth : Method) (c : Code), p.tables.exec = Jvm.exec → c.code = cc → meth.sig.returnType = ret → (∀ w ∈ ws, w.before av.toArray s = true) → s.vm.findClass y.cls = some m.cls → meth.locks = false → c.maxLocals = maxL → (∀ x ∈ c.exceptionTable.toList, False) → ts_K tab D cA s → gX (ts_A u sz) s s.heap → s.heap.size = sz → ∀ (H : Heap) (locs : List Loc), ts_I tab D cA (ts_A u s.heap.size) s.heap u H locs → ∀ ls : Array Slot, lv_has ls maxL (lv_args 0 av) → W p l e (headSpec ws rm).room s m av.toArray below meth c H locs 0 0 (vx_MQ below Qc XC av.toArray s mc ms (ts_A u sz)) (F0 m 0 ls [])) :
    vx_Met l y ws rm (va_Pc av (zPX tab D cA u sz)) Qc XC mc ms (ts_A u sz) := by
  refine vx_ofW hy hw ?_
  intro p e s m args below meth c s₁ B hml hex hv
  obtain ⟨rfl, ⟨hsz, hP, hK⟩, hG⟩ := hv
  rw [lg_entry_eq]
  refine body p e s m below meth c B.exec B.bytes B.returns (atoms_spec (ws := ws) B.pre) (findClass_of_methodNamed B.named) B.notSynchronized hml hex hK hG hsz _ _ ⟨hP, fun q h => h, va_S.rf⟩ _ ?_
  exact lv_entry av hlen
