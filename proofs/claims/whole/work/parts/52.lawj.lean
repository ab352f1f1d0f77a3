/-! The law's frame: two stores beside each other, the array of doubles, the script. -/
/-- an int of the script; the char of an int -/
def xi (xs : Nat → Int32) (j : Int) : Int := (xs j.toNat).toInt
def xc (xs : Nat → Int32) (j : Int) : Int := (((xs j.toNat).toUInt32 % 65536).toInt32).toInt
theorem xi_R (xs : Nat → Int32) (j : Int) : iR (xi xs j) := iZ_R _
theorem xc_R (xs : Nat → Int32) (j : Int) : 0 ≤ xc xs j ∧ xc xs j < 65536 := by
  have h : ((xs j.toNat).toUInt32 % 65536).toNat < 65536 := by
    rw [UInt32.toNat_mod]
    exact Nat.mod_lt _ (by decide)
  have e : xc xs j = (((xs j.toNat).toUInt32 % 65536).toNat : Int) := by
    show ((xs j.toNat).toUInt32 % 65536).toBitVec.toInt = _
    rw [BitVec.toInt_eq_toNat_of_lt (by show 2 * ((xs j.toNat).toUInt32 % 65536).toNat < 2 ^ 32; omega)]
    rfl
  omega
/-- the array of one double -/
def lD (cD : ClassId) (oD : Nat) (v : UInt64) (H : Heap) : Prop := ∃ f : Nat → UInt64, H[oD]? = some (vp_cell cD (1, .inr (.inr (.inr (.inl f))))) ∧ f 0 = v
def lJ (D : va_G) (cX cM : Nat → ClassId) (cD : ClassId) (oD : Nat) (s : State) (uX uM : ts_W) (v : UInt64) (H : Heap) : Prop :=
  ts_P TX D cX uX H ∧ ts_P TM D cM uM H ∧ (∀ κ i : Nat, i < uX.1 κ → s.heap.size ≤ uX.2.1 κ i ∧ ¬ uX.2.1 κ i = oD) ∧ (∀ κ i : Nat, i < uM.1 κ → s.heap.size ≤ uM.2.1 κ i ∧ ¬ uM.2.1 κ i = oD) ∧ (∀ κ i κ' i' : Nat, i < uX.1 κ → i' < uM.1 κ' → ¬ uX.2.1 κ i = uM.2.1 κ' i') ∧ (s.heap.size ≤ oD ∧ oD < H.size ∧ lD cD oD v H) ∧ s.heap.size ≤ H.size ∧ ∀ q : Nat, q < s.heap.size → H[q]? = s.heap[q]?
section LAWJ
variable {p : Program} {l : Launch} {e : Env} {R : Room} {s : State} {m : MethodId} {args : Array Value} {below : List Frame} {meth : Method} {c : Code} {H : Heap} {cells slots : Nat} {Q : State → Prop} {cc : ByteArray} {pc : Nat} {ls : Array Slot} {rest st0 : List Value} {a : Array Value} {mc ms : Nat}
variable {D : va_G} {cX cM : Nat → ClassId} {cD : ClassId} {oD : Nat} {uX uM : ts_W} {v : UInt64}
theorem lJ.IX (h : lJ D cX cM cD oD s uX uM v H) : ts_I TX D cX (ts_A uX H.size) H uX H [] := ⟨h.1, fun _ h => h, va_S.rf⟩
theorem lJ.IM (h : lJ D cX cM cD oD s uX uM v H) : ts_I TM D cM (ts_A uM H.size) H uM H [] := ⟨h.2.1, fun _ h => h, va_S.rf⟩
theorem lJ.S (h : lJ D cX cM cD oD s uX uM v H) : va_S (fun q => s.heap.size ≤ q) s.heap H [] := ⟨h.2.2.2.2.2.2.1, fun q h1 _ => h.2.2.2.2.2.2.2 q h1, fun _ z => absurd z List.not_mem_nil⟩
theorem lJ.geX (h : lJ D cX cM cD oD s uX uM v H) {q : Nat} (hq : ts_A uX H.size q) : s.heap.size ≤ q := by
  rcases hq with ⟨κ, i, h1, rfl⟩ | hq
  · exact (h.2.2.1 κ i h1).1
  · exact Nat.le_trans h.2.2.2.2.2.2.1 hq
theorem lJ.geM (h : lJ D cX cM cD oD s uX uM v H) {q : Nat} (hq : ts_A uM H.size q) : s.heap.size ≤ q := by
  rcases hq with ⟨κ, i, h1, rfl⟩ | hq
  · exact (h.2.2.2.1 κ i h1).1
  · exact Nat.le_trans h.2.2.2.2.2.2.1 hq
theorem lJ.chgX {uX' : ts_W} {H1 : Heap} {locs1 : List Loc} (h : lJ D cX cM cD oD s uX uM v H) (hI : ts_I TX D cX (ts_A uX H.size) H uX' H1 locs1) : lJ D cX cM cD oD s uX' uM v H1 := by
  obtain ⟨hX, hM, gX, gM, dj, ⟨d1, d2, f, d3, d4⟩, hz, hk⟩ := id h
  have sub : ∀ κ i, i < uX'.1 κ → ts_A uX H.size (uX'.2.1 κ i) := fun κ i hi => hI.2.1 _ (Or.inl ⟨κ, i, hi, rfl⟩)
  have nM : ∀ κ i, i < uM.1 κ → ¬ ts_A uX H.size (uM.2.1 κ i) := by
    rintro κ i hi (⟨κ', i', h1, h2⟩ | h1)
    · exact dj κ' i' κ i h1 hi h2.symm
    · exact absurd (hM.1 κ i hi).lt (Nat.not_lt.mpr h1)
  have nD : ¬ ts_A uX H.size oD := by
    rintro (⟨κ', i', h1, h2⟩ | h1)
    · exact (gX κ' i' h1).2 h2.symm
    · omega
  have z1 : H.size ≤ H1.size := hI.2.2.1
  refine ⟨hI.1, ⟨fun κ i hi => (hM.1 κ i hi).kept (hI.2.2.2.1 _ (hM.1 κ i hi).lt (nM κ i hi)), hM.2⟩, fun κ i hi => ⟨h.geX (sub κ i hi), fun z => nD (by rw [← z]; exact sub κ i hi)⟩, gM, fun κ i κ' i' h1 h2 z => nM κ' i' h2 (by rw [← z]; exact sub κ i h1), ⟨d1, by omega, f, ?_, d4⟩, by omega, fun q hq => ?_⟩
  · rw [hI.2.2.2.1 oD d2 nD]
    exact d3
  · rw [hI.2.2.2.1 q (by omega) (fun z => absurd (h.geX z) (by omega))]
    exact hk q hq
theorem lJ.chgM {uM' : ts_W} {H1 : Heap} {locs1 : List Loc} (h : lJ D cX cM cD oD s uX uM v H) (hI : ts_I TM D cM (ts_A uM H.size) H uM' H1 locs1) : lJ D cX cM cD oD s uX uM' v H1 := by
  obtain ⟨hX, hM, gX, gM, dj, ⟨d1, d2, f, d3, d4⟩, hz, hk⟩ := id h
  have sub : ∀ κ i, i < uM'.1 κ → ts_A uM H.size (uM'.2.1 κ i) := fun κ i hi => hI.2.1 _ (Or.inl ⟨κ, i, hi, rfl⟩)
  have nX : ∀ κ i, i < uX.1 κ → ¬ ts_A uM H.size (uX.2.1 κ i) := by
    rintro κ i hi (⟨κ', i', h1, h2⟩ | h1)
    · exact dj κ i κ' i' hi h1 h2
    · exact absurd (hX.1 κ i hi).lt (Nat.not_lt.mpr h1)
  have nD : ¬ ts_A uM H.size oD := by
    rintro (⟨κ', i', h1, h2⟩ | h1)
    · exact (gM κ' i' h1).2 h2.symm
    · omega
  have z1 : H.size ≤ H1.size := hI.2.2.1
  refine ⟨⟨fun κ i hi => (hX.1 κ i hi).kept (hI.2.2.2.1 _ (hX.1 κ i hi).lt (nX κ i hi)), hX.2⟩, hI.1, gX, fun κ i hi => ⟨h.geM (sub κ i hi), fun z => nD (by rw [← z]; exact sub κ i hi)⟩, fun κ i κ' i' h1 h2 z => nX κ i h1 (by rw [z]; exact sub κ' i' h2), ⟨d1, by omega, f, ?_, d4⟩, by omega, fun q hq => ?_⟩
  · rw [hI.2.2.2.1 oD d2 nD]
    exact d3
  · rw [hI.2.2.2.1 q (by omega) (fun z => absurd (h.geM z) (by omega))]
    exact hk q hq
theorem lj_X_i {post : Int → ts_W → Prop} (hr : va_Run p l e R s m args below meth c H [] cells slots mc ms (F0 m pc ls st0) rest (zQi TX D cX uX H.size post a) (ts_A uX H.size)) (hJ : lJ D cX cM cD oD s uX uM v H)
    (kk : ∀ (z : Int) (u' : ts_W) (H1 : Heap), iR z → post z u' → lJ D cX cM cD oD s u' uM v H1 → W p l e R s m args below meth c H1 [] (cells + mc) (slots + ms) Q (F0 m (pc + 3) ls (.int (iZ z) :: rest))) : W p l e R s m args below meth c H [] cells slots Q (F0 m pc ls st0) :=
  zc_i hr hJ.IX (fun z u' H1 locs1 hz hp hI _ => va_forget (fun q hq => hJ.geX (hI.2.2.2.2 q hq)) (kk z u' H1 hz hp (hJ.chgX hI)))
theorem lj_X_l {post : Int → ts_W → Prop} (hr : va_Run p l e R s m args below meth c H [] cells slots mc ms (F0 m pc ls st0) rest (zQl TX D cX uX H.size post a) (ts_A uX H.size)) (hJ : lJ D cX cM cD oD s uX uM v H)
    (kk : ∀ (z : Int) (u' : ts_W) (H1 : Heap), post z u' → lJ D cX cM cD oD s u' uM v H1 → W p l e R s m args below meth c H1 [] (cells + mc) (slots + ms) Q (F0 m (pc + 3) ls (.long (lZ z) :: rest))) : W p l e R s m args below meth c H [] cells slots Q (F0 m pc ls st0) :=
  zc_l hr hJ.IX (fun z u' H1 locs1 hp hI _ => va_forget (fun q hq => hJ.geX (hI.2.2.2.2 q hq)) (kk z u' H1 hp (hJ.chgX hI)))
theorem lj_M_i {post : Int → ts_W → Prop} (hr : va_Run p l e R s m args below meth c H [] cells slots mc ms (F0 m pc ls st0) rest (zQi TM D cM uM H.size post a) (ts_A uM H.size)) (hJ : lJ D cX cM cD oD s uX uM v H)
    (kk : ∀ (z : Int) (u' : ts_W) (H1 : Heap), iR z → post z u' → lJ D cX cM cD oD s uX u' v H1 → W p l e R s m args below meth c H1 [] (cells + mc) (slots + ms) Q (F0 m (pc + 3) ls (.int (iZ z) :: rest))) : W p l e R s m args below meth c H [] cells slots Q (F0 m pc ls st0) :=
  zc_i hr hJ.IM (fun z u' H1 locs1 hz hp hI _ => va_forget (fun q hq => hJ.geM (hI.2.2.2.2 q hq)) (kk z u' H1 hz hp (hJ.chgM hI)))
theorem lj_M_l {post : Int → ts_W → Prop} (hr : va_Run p l e R s m args below meth c H [] cells slots mc ms (F0 m pc ls st0) rest (zQl TM D cM uM H.size post a) (ts_A uM H.size)) (hJ : lJ D cX cM cD oD s uX uM v H)
    (kk : ∀ (z : Int) (u' : ts_W) (H1 : Heap), post z u' → lJ D cX cM cD oD s uX u' v H1 → W p l e R s m args below meth c H1 [] (cells + mc) (slots + ms) Q (F0 m (pc + 3) ls (.long (lZ z) :: rest))) : W p l e R s m args below meth c H [] cells slots Q (F0 m pc ls st0) :=
  zc_l hr hJ.IM (fun z u' H1 locs1 hp hI _ => va_forget (fun q hq => hJ.geM (hI.2.2.2.2 q hq)) (kk z u' H1 hp (hJ.chgM hI)))
theorem lj_M_f {post : UInt32 → ts_W → Prop} (hr : va_Run p l e R s m args below meth c H [] cells slots mc ms (F0 m pc ls st0) rest (zQf TM D cM uM H.size post a) (ts_A uM H.size)) (hJ : lJ D cX cM cD oD s uX uM v H)
    (kk : ∀ (z : UInt32) (u' : ts_W) (H1 : Heap), post z u' → lJ D cX cM cD oD s uX u' v H1 → W p l e R s m args below meth c H1 [] (cells + mc) (slots + ms) Q (F0 m (pc + 3) ls (.float z :: rest))) : W p l e R s m args below meth c H [] cells slots Q (F0 m pc ls st0) :=
  zc_f hr hJ.IM (fun z u' H1 locs1 hp hI _ => va_forget (fun q hq => hJ.geM (hI.2.2.2.2 q hq)) (kk z u' H1 hp (hJ.chgM hI)))
theorem lj_M_d {post : UInt64 → ts_W → Prop} (hr : va_Run p l e R s m args below meth c H [] cells slots mc ms (F0 m pc ls st0) rest (zQd TM D cM uM H.size post a) (ts_A uM H.size)) (hJ : lJ D cX cM cD oD s uX uM v H)
    (kk : ∀ (z : UInt64) (u' : ts_W) (H1 : Heap), post z u' → lJ D cX cM cD oD s uX u' v H1 → W p l e R s m args below meth c H1 [] (cells + mc) (slots + ms) Q (F0 m (pc + 3) ls (.double z :: rest))) : W p l e R s m args below meth c H [] cells slots Q (F0 m pc ls st0) :=
  zc_d hr hJ.IM (fun z u' H1 locs1 hp hI _ => va_forget (fun q hq => hJ.geM (hI.2.2.2.2 q hq)) (kk z u' H1 hp (hJ.chgM hI)))
theorem lj_pre (hK : ts_K TX D cX s) (hG : gX (fun q => s.heap.size ≤ q) s s.heap) (hN : gH s) (hJ : lJ D cX cM cD oD s uX uM v H) {av : List Value} (U : State) (hU : U.heap = H) (hW : s.WarmedH U.vm) : va_Pc av (zPH TX D cX uX H.size) av.toArray U := by
  refine ⟨rfl, ⟨(zPre (av := av) hK hJ.IX U hU hW).2, ?_⟩, hN.moved hW.alike⟩
  rw [hU]
  exact ((hG.kept (fun q h1 _ => hJ.2.2.2.2.2.2.2 q h1)).warm hW).narrow (fun q h => hJ.geX h)
/-- a call of a helper -/
theorem zHS {y : MethodName} {bytes : ByteArray} {maxL nL index k : Nat} {ret : Option FieldType} {hh : List (Nat × Nat × Nat × Nat)} {ws : List Cond} {rm : Room} {Qc : Array Value → State → Outcome → State → Prop} {free : Addr → Prop} {Ts : List Cond} {own : String} {As : List Value} (S : CallFix p m c cc nL s args Ts own) (hM : Met l y ws rm (va_Pc As (zPH TX D cX uX H.size)) Qc mc ms free) (cw : vx_CSW R s args own index y bytes maxL ret hh ws rm mc ms k)
    (hK : ts_K TX D cX s) (hG : gX (fun q => s.heap.size ≤ q) s s.heap) (hN : gH s) (hJ : lJ D cX cM cD oD s uX uM v H) (hn : As.length = k) (hsize : ls.size = nL) (hstack : st0 = As.reverse ++ rest) (hW : (rest.map fun v => v.category).sum ≤ 8) (hdg : decode cc pc = .ok (.invokestatic index, 3)) (hf : cells + mc ≤ R.cells ∧ slots + ms ≤ R.slots) :
    va_Run p l e R s m args below meth c H [] cells slots mc ms (F0 m pc ls st0) rest (Qc As.toArray) free :=
  vx_runSW S hM cw ⟨zPH_blind, fun U hU hW => lj_pre hK hG hN hJ U hU hW⟩ rfl hn hsize hstack (lv_room hW) hdg hf
theorem lj_len {b L : Nat} {xs : Nat → Int32} (hexec : p.tables.exec = Jvm.exec) (hb : c.code = cc) (hX : va_X b L xs s s.heap) (hbl : b < s.heap.size) (hJ : lJ D cX cM cD oD s uX uM v H) (hdg : decode cc pc = .ok (.arraylength, 1))
    (kk : W p l e R s m args below meth c H [] cells slots Q (F0 m (pc + 1) ls (.int (iZ (L : Int)) :: rest))) : W p l e R s m args below meth c H [] cells slots Q (F0 m pc ls (.ref b :: rest)) := by
  refine va_slen hexec hb hX hbl (A := fun q => s.heap.size ≤ q) (Nat.not_le.mpr hbl) hJ.S hdg ?_
  have e := iZ_nI L
  unfold nI at e
  rw [← e]
  exact kk
theorem lj_rd {b L : Nat} {xs : Nat → Int32} {j : Int} (hexec : p.tables.exec = Jvm.exec) (hb : c.code = cc) (hX : va_X b L xs s s.heap) (hbl : b < s.heap.size) (hJ : lJ D cX cM cD oD s uX uM v H) (h0 : 0 ≤ j) (h1 : j < (L : Int)) (hR : iR j) (hdg : decode cc pc = .ok (.iaload, 1))
    (kk : W p l e R s m args below meth c H [] cells slots Q (F0 m (pc + 1) ls (.int (iZ (xi xs j)) :: rest))) : W p l e R s m args below meth c H [] cells slots Q (F0 m pc ls (.int (iZ j) :: .ref b :: rest)) := by
  refine va_sld hexec hb hX hbl (A := fun q => s.heap.size ≤ q) (Nat.not_le.mpr hbl) hJ.S (iZ_in h0 h1 hR) hdg ?_
  rw [iZ_cl hR]
  unfold xi at kk
  rw [iZ_of] at kk
  exact kk
theorem lj_i2c {xs : Nat → Int32} {j : Int} (hexec : p.tables.exec = Jvm.exec) (hb : c.code = cc) (hdg : decode cc pc = .ok (.i2c, 1))
    (kk : W p l e R s m args below meth c H [] cells slots Q (F0 m (pc + 1) ls (.int (iZ (xc xs j)) :: rest))) : W p l e R s m args below meth c H [] cells slots Q (F0 m pc ls (.int (iZ (xi xs j)) :: rest)) := by
  refine lv_i2c hexec hb hdg ?_ kk
  unfold xi xc
  rw [iZ_of, iZ_of]
theorem lj_lcmp {x : Int64} (hexec : p.tables.exec = Jvm.exec) (hb : c.code = cc) (hdg : decode cc pc = .ok (.lcmp, 1))
    (kk : W p l e R s m args below meth c H [] cells slots Q (F0 m (pc + 1) ls (.int (iZ 0) :: rest))) : W p l e R s m args below meth c H [] cells slots Q (F0 m pc ls (.long x :: .long x :: rest)) := by
  intro T hT X
  obtain ⟨t, a, b⟩ := kk T hT X
  refine ⟨t, ?_, b⟩
  have hxx : ¬ x > x := Int64.lt_irrefl
  jvm_step X.here [X.here.top, hexec, hb, hdg, hxx]
  exact a
end LAWJ
/-- what stays the same all along the law -/
def lEnv (p : Program) (s : State) (m : MethodId) (c : Code) (args : Array Value) (b L : Nat) (xs : Nat → Int32) (D : va_G) (cX cM : Nat → ClassId) (cD : ClassId) : Prop :=
  p.tables.exec = Jvm.exec ∧ c.code = cL_law ∧ c.maxLocals = 9 ∧ s.vm.findClass RL = some m.cls ∧ (∀ w ∈ wsL_law, w.before args s = true) ∧ ts_K TX D cX s ∧ ts_K TM D cM s ∧ va_K D vwCl [(cD, .double)] s ∧ gX (fun q => s.heap.size ≤ q) s s.heap ∧ gH s ∧ va_X b L xs s s.heap ∧ b < s.heap.size
def lInv (D : va_G) (cX cM : Nat → ClassId) (cD : ClassId) (oD : Nat) (s : State) (b : Nat) (i : Int) (q : Nat) (H : Heap) (ls : Array Slot) : Prop :=
  ∃ (n : Nat → Nat) (am : ts_Am) (S : ts_St) (nM : Nat → Nat) (amM : ts_Am) (M : ts_St) (v : UInt64), lJ D cX cM cD oD s (n, am, S) (nM, amM, M) v H ∧ lSim n S M q ∧ mW nM M ∧ 0 < n 9 ∧ lv_has ls 9 [(0, .ref b), (1, .ref (am 0 0)), (2, .ref (amM 0 0)), (3, .ref (am 9 0)), (4, .ref oD), (5, .int (iZ i))]
