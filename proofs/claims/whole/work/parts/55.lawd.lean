/-! The two helpers that put a double, and their cases. -/
theorem nf_f (a : Int32) {b : Int32} (h : b ≠ 0) : Jvm.FP.Core.dIsNaN (FP.f2d (FP.fdiv (FP.i2f a) (FP.i2f b))) = false := by
  have h1 : Jvm.FP.fIsNaN (FP.fdiv (FP.i2f a) (FP.i2f b)) = false := Jvm.FP.Core.fdiv_out (Jvm.FP.Core.i2f_fin a).notNaN (Jvm.FP.Core.i2f_fin b) (fun q => Jvm.FP.Core.i2f_ne_zero h ((Jvm.FP.Core.zero_bits232 _).mp q))
  exact (Jvm.FP.f2d_nan _).trans h1
theorem nf_d (a : Int32) {b : Int32} (h : b ≠ 0) : Jvm.FP.Core.dIsNaN (FP.ddiv (FP.i2d a) (FP.i2d b)) = false :=
  Jvm.FP.Core.ddiv_out (Jvm.FP.Core.i2d_fin a).notNaN (Jvm.FP.Core.i2d_fin b) (fun q => Jvm.FP.Core.i2d_ne_zero h ((Jvm.FP.Core.zero_bits2 _).mp q))
theorem dcmp_eq {x : UInt64} (h : Jvm.FP.Core.dIsNaN x = false) (op : CmpOp) : Op.cmpValue (FP.dcmp x x) op = iZ 0 := by
  have e : FP.dcmp x x = some .eq := Jvm.FP.Core.dcmp_self (fun q => by rw [(Jvm.FP.Core.dIsNaN_iff x).mpr q] at h; cases h)
  rw [e]
  cases op <;> rfl
def zPD (cD : ClassId) (oD : Nat) (v : UInt64) (D : va_G) (cA : Nat → ClassId) (u : ts_W) (sz : Nat) : State → Prop := fun U => zPH TX D cA u sz U ∧ va_K D vwCl [(cD, .double)] U ∧ lD cD oD v U.heap ∧ oD < sz ∧ ∀ κ i : Nat, i < u.1 κ → ¬ u.2.1 κ i = oD
def aD (oD : Nat) (u : ts_W) (sz : Nat) : Nat → Prop := fun q => ts_A u sz q ∨ q = oD
theorem zPD_blind {cD : ClassId} {oD : Nat} {v : UInt64} {D : va_G} {cA : Nat → ClassId} {u : ts_W} {sz : Nat} {av : List Value} : FrameBlind (va_Pc av (zPD cD oD v D cA u sz)) := by
  intro a U g mk h
  obtain ⟨h0, h1, h2, h3⟩ := h
  obtain ⟨k0, k1⟩ := zPH_blind (av := av) a U g mk ⟨h0, h1⟩
  exact ⟨k0, k1, va_K.moved (u := U) (U := U.calling g mk a) (Vm.Alike.refl U.vm) h2, h3⟩
abbrev zQD (cD : ClassId) (oD : Nat) (D : va_G) (cA : Nat → ClassId) (u : ts_W) (sz : Nat) (post : Int → UInt64 → Prop) : Array Value → State → Outcome → State → Prop := va_Qi (fun (r : Int32) (x : Int × UInt64) => r = iZ x.1 ∧ iR x.1 ∧ post x.1 x.2) (fun x t => zBu TX D cA u sz u t ∧ lD cD oD x.2 t.heap) (aD oD u sz)
theorem zMd_of {l : Launch} {y : MethodName} {ws ws' : List Cond} {rm : Room} {av : List Value} {cD : ClassId} {oD : Nat} {v : UInt64} {D : va_G} {cA : Nat → ClassId} {u : ts_W} {sz : Nat} {Qc : Array Value → State → Outcome → State → Prop} {mc ms : Nat} {cc : ByteArray} {maxL : Nat} {ret : Option FieldType} {hh : List (Nat × Nat × Nat × Nat)} (hy : plainName y.cls = true) (hw : ws = Cond.codeWith y cc maxL ret hh :: ws') (hlen : (lg_sl av).length ≤ maxL)
    (body : ∀ (p : Program) (e : Env) (s : State) (m : MethodId) (below : List Frame) (meth : Method) (c : Code), p.tables.exec = Jvm.exec → c.code = cc → meth.sig.returnType = ret → (∀ w ∈ ws, w.before av.toArray s = true) → s.vm.findClass y.cls = some m.cls → meth.locks = false → c.maxLocals = maxL → c.exceptionTable.toList = tableOf hh → ts_K TX D cA s → gX (ts_A u sz) s s.heap → gH s → s.heap.size = sz → ts_P TX D cA u s.heap → va_K D vwCl [(cD, .double)] s → lD cD oD v s.heap → oD < sz → (∀ κ i : Nat, i < u.1 κ → ¬ u.2.1 κ i = oD) → ∀ ls : Array Slot, lv_has ls maxL (lv_args 0 av) → W p l e (headSpec ws rm).room s m av.toArray below meth c s.heap [] 0 0 (MQ below Qc av.toArray s mc ms (aD oD u sz)) (F0 m 0 ls [])) :
    Met l y ws rm (va_Pc av (zPD cD oD v D cA u sz)) Qc mc ms (aD oD u sz) := by
  refine MetFree.of_bodyS (code := cc) (maxLocals := maxL) (ret := ret) hy ?_ ?_
  · intro args s m h hn
    obtain ⟨m9, meth, c, hn9, h1, h2, h3, h4, -, h5, h6, -⟩ := Cond.codeWith_spec (atoms_spec (ws := ws) h _ (by rw [hw]; exact List.mem_cons_self))
    cases hn.symm.trans hn9
    exact ⟨meth, c, h1, h2, h3, h4, h5, h6⟩
  · intro p e s m args below meth c s₁ B hml hv _
    have hh0 : s₁.heap = s.heap := by rw [B.state]; rfl
    obtain ⟨rfl, ⟨⟨⟨hsz, hP, hK⟩, hG⟩, hN⟩, hKD, hd, hlt, hap⟩ := hv
    have hts := atoms_spec (ws := ws) B.pre
    have htb : c.exceptionTable.toList = tableOf hh := vx_table (x := y) B (hts _ (by rw [hw]; exact List.mem_cons_self))
    have k := body p e s m below meth c B.exec B.bytes B.returns hts (findClass_of_methodNamed B.named) B.notSynchronized hml htb hK hG hN hsz hP hKD hd hlt hap _ (lv_entry av hlen)
    rw [← lg_entry_eq] at k
    obtain ⟨t, a1, o, b1, b2, b3⟩ := k s₁ hh0 (Stand.of_body B)
    exact ⟨t, o, a1, b1, b2, ⟨b3.1, b3.2⟩⟩
section LAWD
variable {p : Program} {l : Launch} {e : Env} {R : Room} {s : State} {m : MethodId} {args : Array Value} {below : List Frame} {meth : Method} {c : Code} {H : Heap} {locs : List Loc} {cells slots : Nat} {Q : State → Prop} {cc : ByteArray} {pc : Nat} {ls : Array Slot} {rest st0 : List Value} {a : Array Value} {mc ms : Nat}
variable {D : va_G} {cA cX cM : Nat → ClassId} {cD : ClassId} {oD : Nat} {u uX uM : ts_W} {v : UInt64}
/-- the double put -/
theorem ld_put {x : UInt64} (hexec : p.tables.exec = Jvm.exec) (hb : c.code = cc) (hKD : va_K D vwCl [(cD, .double)] s) (hd : lD cD oD v H) (hS : va_S (aD oD u s.heap.size) s.heap H locs) (hdg : decode cc pc = .ok (.dastore, 1))
    (kk : ∀ (H1 : Heap) (locs1 : List Loc), H1.size = H.size → (∀ q : Nat, ¬ q = oD → H1[q]? = H[q]?) → lD cD oD x H1 → va_S (aD oD u s.heap.size) s.heap H1 locs1 → W p l e R s m args below meth c H1 locs1 cells slots Q (F0 m (pc + 1) ls rest)) : W p l e R s m args below meth c H locs cells slots Q (F0 m pc ls (.double x :: .int (iZ 0) :: .ref oD :: rest)) := by
  obtain ⟨f, hf, -⟩ := hd
  obtain ⟨j, ej⟩ : ∃ j, j = iZ 0 := ⟨_, rfl⟩
  rw [← ej]
  have e0 : j.toNatClampNeg = 0 := by rw [ej, iZ_cl (by decide)]; rfl
  have hin : vp_in j 1 := by rw [ej]; exact iZ_in (n := 1) (by decide) (by decide) (by decide)
  clear ej
  refine W.dast hexec hb hf ((hKD.2 0 _ rfl).1 1 (fun j => .double (f j))) (fun q => by cases q) (by show ¬ (j < 0 ∨ (arrV _ _ _).slots.size ≤ _); rw [arrV_size]; exact hin) rfl rfl hdg fun H1 e1 z oq => ?_
  refine kk H1 _ z oq ⟨vf_upd f j.toNatClampNeg x, ?_, ?_⟩ (hS.put z oq (Or.inr rfl))
  · rw [e1, vp_cell_d, vp_cell_d, arrV_store]
    congr 2
    funext q
    by_cases hq : q = j.toNatClampNeg
    · subst hq
      simp [updV, vf_upd]
    · simp [updV, vf_upd, hq]
  · rw [e0]
    simp [vf_upd]
theorem ld_get (hexec : p.tables.exec = Jvm.exec) (hb : c.code = cc) (hKD : va_K D vwCl [(cD, .double)] s) (hd : lD cD oD v H) (hdg : decode cc pc = .ok (.daload, 1))
    (kk : W p l e R s m args below meth c H locs cells slots Q (F0 m (pc + 1) ls (.double v :: rest))) : W p l e R s m args below meth c H locs cells slots Q (F0 m pc ls (.int (iZ 0) :: .ref oD :: rest)) := by
  obtain ⟨f, hf, rfl⟩ := hd
  have hP : va_P D vwCl [(oD, .inl (cD, 1, .inr (.inr (.inr (.inl f)))))] H := fun j q hj => by
    have hz : j < 1 := (List.getElem?_eq_some_iff.mp hj).1
    rw [show j = 0 by omega] at hj
    cases hj
    exact hf
  refine va_dald (f := f) hexec hb hKD hP 0 0 rfl rfl (i := iZ 0) (iZ_in (n := 1) (by decide) (by decide) (by decide)) hdg ?_
  have e0 : (iZ 0).toNatClampNeg = 0 := by decide
  rw [e0]
  exact kk
theorem ld_end {post : Int → UInt64 → Prop} {z : Int} {x : UInt64} (hx : p.tables.exec = Jvm.exec) (hb : c.code = cc) (hr : meth.sig.returnType = some .int) (hS : va_S (aD oD u s.heap.size) s.heap H locs) (hB : ts_P TX D cA u H ∧ ∀ q, ts_A u H.size q → ts_A u s.heap.size q) (hd : lD cD oD x H) (hz : iR z) (hp : post z x) (hc : cells ≤ mc) (hs : slots ≤ ms) (hdg : decode cc pc = .ok (.ireturn, 1)) (hlocks : meth.locks = false) :
    W p l e R s m args below meth c H locs cells slots (MQ below (zQD cD oD D cA u s.heap.size post) args s mc ms (aD oD u s.heap.size)) (F0 m pc ls [.int (iZ z)]) :=
  W.widen hc hs (W.zret hx hb hr rfl (fun t ht hW => ⟨⟨iZ z, (z, x), rfl, ⟨rfl, hz, hp⟩, ⟨by rw [ht]; exact hB.1, by rw [ht]; exact hB.2⟩, by rw [ht]; exact hd⟩, hS.F ht⟩) hS.2.2 hdg hlocks)
theorem lj_preD (hK : ts_K TX D cX s) (hKD : va_K D vwCl [(cD, .double)] s) (hG : gX (fun q => s.heap.size ≤ q) s s.heap) (hN : gH s) (hJ : lJ D cX cM cD oD s uX uM v H) {av : List Value} (U : State) (hU : U.heap = H) (hW : s.WarmedH U.vm) : va_Pc av (zPD cD oD v D cX uX H.size) av.toArray U := by
  refine ⟨rfl, (lj_pre (av := av) hK hG hN hJ U hU hW).2, va_K.moved hW.alike hKD, ?_, hJ.2.2.2.2.2.1.2.1, fun κ i hi => (hJ.2.2.1 κ i hi).2⟩
  rw [hU]
  exact hJ.2.2.2.2.2.1.2.2
theorem zHD {y : MethodName} {bytes : ByteArray} {maxL nL index k : Nat} {ret : Option FieldType} {hh : List (Nat × Nat × Nat × Nat)} {ws : List Cond} {rm : Room} {Qc : Array Value → State → Outcome → State → Prop} {free : Addr → Prop} {Ts : List Cond} {own : String} {As : List Value} (S : CallFix p m c cc nL s args Ts own) (hM : Met l y ws rm (va_Pc As (zPD cD oD v D cX uX H.size)) Qc mc ms free) (cw : vx_CSW R s args own index y bytes maxL ret hh ws rm mc ms k)
    (hK : ts_K TX D cX s) (hKD : va_K D vwCl [(cD, .double)] s) (hG : gX (fun q => s.heap.size ≤ q) s s.heap) (hN : gH s) (hJ : lJ D cX cM cD oD s uX uM v H) (hn : As.length = k) (hsize : ls.size = nL) (hstack : st0 = As.reverse ++ rest) (hW : (rest.map fun v => v.category).sum ≤ 8) (hdg : decode cc pc = .ok (.invokestatic index, 3)) (hf : cells + mc ≤ R.cells ∧ slots + ms ≤ R.slots) :
    va_Run p l e R s m args below meth c H [] cells slots mc ms (F0 m pc ls st0) rest (Qc As.toArray) free :=
  vx_runSW S hM cw ⟨zPD_blind, fun U hU hW => lj_preD hK hKD hG hN hJ U hU hW⟩ rfl hn hsize hstack (lv_room hW) hdg hf
theorem lj_D {post : Int → UInt64 → Prop} (hr : va_Run p l e R s m args below meth c H [] cells slots mc ms (F0 m pc ls st0) rest (zQD cD oD D cX uX H.size post a) (aD oD uX H.size)) (hJ : lJ D cX cM cD oD s uX uM v H)
    (kk : ∀ (z : Int) (x : UInt64) (H1 : Heap), iR z → post z x → lJ D cX cM cD oD s uX uM x H1 → W p l e R s m args below meth c H1 [] (cells + mc) (slots + ms) Q (F0 m (pc + 3) ls (.int (iZ z) :: rest))) : W p l e R s m args below meth c H [] cells slots Q (F0 m pc ls st0) := by
  refine va_calli (A0 := aD oD uX H.size) (H0 := H) hr va_S.rf (fun q _ h => h) (fun q h => h) (fun r u1 t H1 locs1 ht hvm hp hB hz hk hS => ?_)
  obtain ⟨rfl, hz2, hp⟩ := hp
  subst ht
  obtain ⟨hX, hM, gX, gM, dj, ⟨d1, d2, d3⟩, hz0, hk0⟩ := id hJ
  have nM : ∀ κ i, i < uM.1 κ → ¬ aD oD uX H.size (uM.2.1 κ i) := by
    rintro κ i hi ((⟨κ', i', h1, h2⟩ | h1) | h1)
    · exact dj κ' i' κ i h1 hi h2.symm
    · exact absurd (hM.1 κ i hi).lt (Nat.not_lt.mpr h1)
    · exact (gM κ i hi).2 h1
  refine va_forget (fun q hq => ?_) (kk u1.1 u1.2 _ hz2 hp ⟨hB.1.1, ⟨fun κ i hi => (hM.1 κ i hi).kept (hk _ (hM.1 κ i hi).lt (nM κ i hi)), hM.2⟩, gX, gM, dj, ⟨d1, by omega, hB.2⟩, by omega, fun q hq => ?_⟩)
  · rcases hS.2.2 q hq with h | h
    · exact hJ.geX h
    · rw [h]; exact d1
  · rw [hk q (by omega) (fun z => ?_)]
    · exact hk0 q hq
    · rcases z with h | h
      · exact absurd (hJ.geX h) (by omega)
      · omega
theorem lj_dcmp {x : UInt64} {op : CmpOp} (hexec : p.tables.exec = Jvm.exec) (hb : c.code = cc) (hn : Jvm.FP.Core.dIsNaN x = false) (hdg : decode cc pc = .ok (.dcmp op, 1))
    (kk : W p l e R s m args below meth c H locs cells slots Q (F0 m (pc + 1) ls (.int (iZ 0) :: rest))) : W p l e R s m args below meth c H locs cells slots Q (F0 m pc ls (.double x :: .double x :: rest)) := by
  refine lv_dcmp hexec hb hdg ?_
  rw [dcmp_eq hn]
  exact kk
end LAWD
theorem va_S.toD {oD : Nat} {u : ts_W} {sz : Nat} {H0 H : Heap} {locs : List Loc} (h : va_S (ts_A u sz) H0 H locs) : va_S (aD oD u sz) H0 H locs := ⟨h.1, fun q h1 h2 => h.2.1 q h1 (fun z => h2 (Or.inl z)), fun z hz => Or.inl (h.2.2 z hz)⟩
theorem yMN_b (S : ts_St) : ∀ k : Nat, 0 ≤ yMN S k ∧ yMN S k ≤ (k : Int)
  | 0 => by simp [yMN]
  | k + 1 => by
    have h := yMN_b S k
    unfold yMN
    first | (split <;> omega) | omega
set_option maxHeartbeats 4000000 in
set_option maxRecDepth 100000 in
theorem c_L_usedShare (l : Launch) (hfl : l.stackTraces = false) (D : va_G) (cA : Nat → ClassId) (n : Nat → Nat) (am : ts_Am) (S : ts_St) (sz : Nat) (cD : ClassId) (oD : Nat) (v : UInt64) (hW : cW n S) : Met l yL_usedShare wsL_usedShare ({ frames := 7, cells := 1, slots := 6, locals := 113 } : Room) (va_Pc [.ref (am 0 0), .ref oD] (zPD cD oD v D cA (n, am, S) sz)) (zQD cD oD D cA (n, am, S) sz (fun k x => (k = 0 ∧ ¬ n 7 = 0 ∧ x = FP.f2d (FP.fdiv (FP.i2f (iZ (yUsed S (n 7)))) (FP.i2f (iZ (n 7 : Int))))) ∨ (k = 1 ∧ n 7 = 0))) 1 6 (aD oD (n, am, S) sz) := by
  refine zMd_of (by decide) rfl (Nat.le_of_ble_eq_true rfl) ?_
  intro p e s m below meth c hx hb hr hts hown hlocks hml htb hK hG hN hsz hP hKD hd hlt hap ls hl
  subst hsz
  have hown : s.vm.findClass RL = some m.cls := hown
  have hl : lv_has ls 3 [(0, .ref (am 0 0)), (1, .ref oD)] := hl
  have hv0 : 0 < n 0 := hW.1.1
  have hI : ts_I TX D cA (ts_A (n, am, S) s.heap.size) s.heap (n, am, S) s.heap [] := ⟨hP, fun _ h => h, va_S.rf⟩
  have hna : ¬ ts_A (n, am, S) s.heap.size oD := by
    rintro (⟨κ, i, h1, h2⟩ | h1)
    · exact hap κ i h1 h2.symm
    · omega
  refine lv_aload_n hx hb dL_usedShare_0 rfl (lv_at hl 1 rfl) ?_
  refine z_iconst hx hb dL_usedShare_1 ?_
  refine lv_aload_n hx hb dL_usedShare_2 rfl (lv_at hl 0 rfl) ?_
  refine vx_callf (A0 := ts_A (n, am, S) s.heap.size) (H0 := s.heap) (zxV (As := []) (rest := [.int (iZ 0), .ref oD]) (κ := 0) (i := 0) ⟨hx, hb, hml, hown, hts⟩ (c_X4_usedShare l hfl D cA n am S s.heap.size hW) (cwV 0 hts gL_usedShare_X4_usedShare rfl rfl rfl (by decide +kernel) ⟨Nat.le_of_ble_eq_true rfl, Nat.le_of_ble_eq_true rfl⟩) hK hI hG hv0 rfl rfl rfl hl.1 rfl (Nat.le_of_ble_eq_true rfl) dL_usedShare_3 ⟨Nat.le_of_ble_eq_true rfl, Nat.le_of_ble_eq_true rfl⟩) va_S.rf (fun q _ h => h) (fun q h => h) (fun q _ h => h) (fun E ce q9 u1 t H1 locs1 ht hvm _ hB hz hk hS hcell hcv hcl => ?_) (fun r u1 t H1 locs1 ht hvm hp hB hz hk hS => ?_)
  · subst ht
    obtain ⟨⟨rfl, h0⟩, hB⟩ := hB
    refine vx_catch hown [] ⟨0, 8, 11, 98⟩ [] (htb.trans rfl) (fun _ h => absurd h List.not_mem_nil) rfl (by decide) (hts (.classLink RL 98 "java/lang/ArithmeticException") (by decide +kernel)) (va_Nw.use rfl (hG.2.2.2.1 _ xC_ARE)) hcell hcv hcl ?_
    refine lv_astore_n (lv' := [(2, .ref q9), (0, .ref (am 0 0)), (1, .ref oD)]) hx hb dL_usedShare_11 rfl hl (by decide) rfl (fun ls hl => ?_)
    refine z_iconst hx hb dL_usedShare_12 ?_
    exact ld_end (z := 1) (x := v) hx hb hr hS.toD hB (by obtain ⟨f, f1, f2⟩ := hd; exact ⟨f, by rw [hk oD hlt hna]; exact f1, f2⟩) (by decide) (Or.inr ⟨rfl, h0⟩) (Nat.le_of_ble_eq_true rfl) (Nat.le_of_ble_eq_true rfl) dL_usedShare_13 hlocks
  · subst ht
    obtain ⟨h0, rfl, rfl⟩ := hp
    have b := hW.lim
    have hd1 : lD cD oD v t.heap := by obtain ⟨f, f1, f2⟩ := hd; exact ⟨f, by rw [hk oD hlt hna]; exact f1, f2⟩
    refine lv_f2d hx hb dL_usedShare_6 (nn_64 (nf_f _ (iZ_ne0 ⟨by omega, by omega⟩ (by omega)))) ?_
    refine ld_put (u := (n, am, S)) hx hb hKD hd1 hS.toD dL_usedShare_7 (fun H1 locs1 z1 o1 hd2 hS2 => ?_)
    refine lv_goto (tgt := 14) hx hb dL_usedShare_8 (by decide) ?_
    refine z_iconst hx hb dL_usedShare_14 ?_
    exact ld_end (z := 0) hx hb hr hS2 ⟨⟨fun κ i hi => (hB.1.1 κ i hi).kept (o1 _ (hap κ i hi)), hB.1.2⟩, by rw [z1]; exact hB.2⟩ hd2 (by decide) (Or.inl ⟨rfl, h0, rfl⟩) (Nat.le_of_ble_eq_true rfl) (Nat.le_of_ble_eq_true rfl) dL_usedShare_15 hlocks
set_option maxHeartbeats 4000000 in
set_option maxRecDepth 100000 in
theorem c_L_meanWaiting (l : Launch) (hfl : l.stackTraces = false) (D : va_G) (cA : Nat → ClassId) (n : Nat → Nat) (am : ts_Am) (S : ts_St) (sz : Nat) (cD : ClassId) (oD : Nat) (v : UInt64) (hW : cW n S) (hcr : cR n S) : Met l yL_meanWaiting wsL_meanWaiting ({ frames := 7, cells := 1, slots := 6, locals := 114 } : Room) (va_Pc [.ref (am 0 0), .ref oD] (zPD cD oD v D cA (n, am, S) sz)) (zQD cD oD D cA (n, am, S) sz (fun k x => (k = 0 ∧ ¬ yMN S (n 8) = 0 ∧ x = FP.ddiv (FP.i2d (iZ (yMS S (n 8)))) (FP.i2d (iZ (yMN S (n 8))))) ∨ (k = 1 ∧ yMN S (n 8) = 0))) 1 6 (aD oD (n, am, S) sz) := by
  refine zMd_of (by decide) rfl (Nat.le_of_ble_eq_true rfl) ?_
  intro p e s m below meth c hx hb hr hts hown hlocks hml htb hK hG hN hsz hP hKD hd hlt hap ls hl
  subst hsz
  have hown : s.vm.findClass RL = some m.cls := hown
  have hl : lv_has ls 3 [(0, .ref (am 0 0)), (1, .ref oD)] := hl
  have hv0 : 0 < n 0 := hW.1.1
  have hI : ts_I TX D cA (ts_A (n, am, S) s.heap.size) s.heap (n, am, S) s.heap [] := ⟨hP, fun _ h => h, va_S.rf⟩
  have hna : ¬ ts_A (n, am, S) s.heap.size oD := by
    rintro (⟨κ, i, h1, h2⟩ | h1)
    · exact hap κ i h1 h2.symm
    · omega
  refine lv_aload_n hx hb dL_meanWaiting_0 rfl (lv_at hl 1 rfl) ?_
  refine z_iconst hx hb dL_meanWaiting_1 ?_
  refine lv_aload_n hx hb dL_meanWaiting_2 rfl (lv_at hl 0 rfl) ?_
  refine vx_calld (A0 := ts_A (n, am, S) s.heap.size) (H0 := s.heap) (zxV (As := []) (rest := [.int (iZ 0), .ref oD]) (κ := 0) (i := 0) ⟨hx, hb, hml, hown, hts⟩ (c_X4_meanWaiting l hfl D cA n am S s.heap.size hW hcr) (cwV 0 hts gL_meanWaiting_X4_meanWaiting rfl rfl rfl (by decide +kernel) ⟨Nat.le_of_ble_eq_true rfl, Nat.le_of_ble_eq_true rfl⟩) hK hI hG hv0 rfl rfl rfl hl.1 rfl (Nat.le_of_ble_eq_true rfl) dL_meanWaiting_3 ⟨Nat.le_of_ble_eq_true rfl, Nat.le_of_ble_eq_true rfl⟩) va_S.rf (fun q _ h => h) (fun q h => h) (fun q _ h => h) (fun E ce q9 u1 t H1 locs1 ht hvm _ hB hz hk hS hcell hcv hcl => ?_) (fun r u1 t H1 locs1 ht hvm hp hB hz hk hS => ?_)
  · subst ht
    obtain ⟨⟨rfl, h0⟩, hB⟩ := hB
    refine vx_catch hown [] ⟨0, 7, 10, 98⟩ [] (htb.trans rfl) (fun _ h => absurd h List.not_mem_nil) rfl (by decide) (hts (.classLink RL 98 "java/lang/ArithmeticException") (by decide +kernel)) (va_Nw.use rfl (hG.2.2.2.1 _ xC_ARE)) hcell hcv hcl ?_
    refine lv_astore_n (lv' := [(2, .ref q9), (0, .ref (am 0 0)), (1, .ref oD)]) hx hb dL_meanWaiting_10 rfl hl (by decide) rfl (fun ls hl => ?_)
    refine z_iconst hx hb dL_meanWaiting_11 ?_
    exact ld_end (z := 1) (x := v) hx hb hr hS.toD hB (by obtain ⟨f, f1, f2⟩ := hd; exact ⟨f, by rw [hk oD hlt hna]; exact f1, f2⟩) (by decide) (Or.inr ⟨rfl, h0⟩) (Nat.le_of_ble_eq_true rfl) (Nat.le_of_ble_eq_true rfl) dL_meanWaiting_12 hlocks
  · subst ht
    obtain ⟨h0, rfl, rfl⟩ := hp
    have b := hW.lim
    have b2 := yMN_b S (n 8)
    have hd1 : lD cD oD v t.heap := by obtain ⟨f, f1, f2⟩ := hd; exact ⟨f, by rw [hk oD hlt hna]; exact f1, f2⟩
    refine ld_put (u := (n, am, S)) hx hb hKD hd1 hS.toD dL_meanWaiting_6 (fun H1 locs1 z1 o1 hd2 hS2 => ?_)
    refine lv_goto (tgt := 13) hx hb dL_meanWaiting_7 (by decide) ?_
    refine z_iconst hx hb dL_meanWaiting_13 ?_
    exact ld_end (z := 0) hx hb hr hS2 ⟨⟨fun κ i hi => (hB.1.1 κ i hi).kept (o1 _ (hap κ i hi)), hB.1.2⟩, by rw [z1]; exact hB.2⟩ hd2 (by decide) (Or.inl ⟨rfl, h0, rfl⟩) (Nat.le_of_ble_eq_true rfl) (Nat.le_of_ble_eq_true rfl) dL_meanWaiting_14 hlocks
set_option maxHeartbeats 4000000 in
set_option maxRecDepth 100000 in
theorem law_usedShare {p : Program} {e : Env} {s : State} {m : MethodId} {below : List Frame} {meth : Method} {c : Code} {args : Array Value} {cells slots : Nat} {Q : State → Prop} {H : Heap} {ls : Array Slot} {b L : Nat} {xs : Nat → Int32} {D : va_G} {cX cM : Nat → ClassId} {cD : ClassId} {oD : Nat} {i : Int} {q : Nat} (l : Launch) (hfl : l.stackTraces = false) (hE : lEnv p s m c args b L xs D cX cM cD) (hq : q < 600) (hi : 0 ≤ i ∧ i + 5 ≤ (L : Int) ∧ L ≤ 2560) (h : lInv D cX cM cD oD s b i q H ls) (hc : cells + 8 ≤ 762397) (hs : slots + 40 ≤ 6708562) (kk : ∀ (H : Heap) (ls : Array Slot), lInv D cX cM cD oD s b i (q + 1) H ls → W p l e room_1 s m args below meth c H [] (cells + 8) (slots + 40) Q (F0 m 1699 ls [])) : W p l e room_1 s m args below meth c H [] cells slots Q (F0 m 1568 ls []) := by
  obtain ⟨hx, hb, hml, hown, hts, hKX, hKM, hKD, hG, hN, hX, hbl⟩ := hE
  obtain ⟨n, am, S, nM, amM, M, v, hJ, hs0, hW, h9, hl⟩ := h
  have hr : room_1.cells = 762397 ∧ room_1.slots = 6708562 := ⟨rfl, rfl⟩
  have hv0 : 0 < nM 0 := hW.1 0 (by decide)
  have hvX : 0 < n 0 := hs0.1.1.1.1.1
  have bl := hs0.1.1.1.lim
  have nn : ¬ n 7 = 0 → Jvm.FP.Core.dIsNaN (FP.f2d (FP.fdiv (FP.i2f (iZ (yUsed S (n 7)))) (FP.i2f (iZ (n 7 : Int))))) = false := fun h0 => nf_f _ (iZ_ne0 ⟨by omega, by omega⟩ (by omega))
  refine lv_aload_n hx hb dL_law_1568 rfl (lv_at hl 1 rfl) ?_
  refine lv_aload hx hb dL_law_1569 (lv_at hl 4 rfl) ?_
  refine lj_D (zHD (As := [.ref (am 0 0), .ref oD]) (rest := []) ⟨hx, hb, hml, hown, hts⟩ (c_L_usedShare l hfl D cX n am S H.size cD oD v hs0.1.1.1) (vx_cwSW 2 hts gL_law_L_usedShare rfl rfl rfl (by decide +kernel) ⟨Nat.le_of_ble_eq_true rfl, Nat.le_of_ble_eq_true rfl⟩) hKX hKD hG hN hJ rfl hl.1 rfl (Nat.le_of_ble_eq_true rfl) dL_law_1571 ⟨by rw [hr.1]; omega, by rw [hr.2]; omega⟩) hJ (fun k v1 H hk hp1 hJ => ?_)
  refine lv_istore (lv' := [(6, .int (iZ k)), (0, .ref b), (1, .ref (am 0 0)), (2, .ref (amM 0 0)), (3, .ref (am 9 0)), (4, .ref oD), (5, .int (iZ i))]) hx hb dL_law_1574 hl (by decide) rfl (fun ls hl => ?_)
  refine lv_aload_n hx hb dL_law_1576 rfl (lv_at hl 3 rfl) ?_
  refine lj_M_f (zrV (As := []) (rest := []) (κ := 0) (i := 0) ⟨hx, hb, hml, hown, hts⟩ (c_X5_usedShare l D cM nM amM M H.size hW hs0.1.mR) (cwV 0 hts gL_law_X5_usedShare rfl rfl rfl (by decide +kernel) ⟨Nat.le_of_ble_eq_true rfl, Nat.le_of_ble_eq_true rfl⟩) hKM hJ.IM hv0 rfl rfl rfl hl.1 rfl (Nat.le_of_ble_eq_true rfl) dL_law_1577 ⟨by rw [hr.1]; omega, by rw [hr.2]; omega⟩) hJ (fun z w H hp hJ => ?_)
  obtain ⟨M1, rfl, hW1, h24, hz0, hs1⟩ : ∃ M1, w = (nM, amM, M1) ∧ mW nM M1 ∧ M1 0 0 24 = k ∧ (k = 0 → ¬ n 7 = 0 ∧ z = FP.fdiv (FP.i2f (iZ (yUsed S (n 7)))) (FP.i2f (iZ (n 7 : Int))) ∧ v1 = FP.f2d (FP.fdiv (FP.i2f (iZ (yUsed S (n 7)))) (FP.i2f (iZ (n 7 : Int))))) ∧ lSim n S M1 (q + 1) := by
    have k7 : M 0 0 5 = (n 7 : Int) := hs0.1.2.1.1.2.1
    have ku : mUsed M (M 0 0 5).toNat = yUsed S (n 7) := by rw [k7, Int.toNat_natCast]; exact hs0.1.used
    have kk0 : kUsed M = if n 7 = 0 then 1 else 0 := by unfold kUsed; rw [k7]; (repeat' split) <;> first | rfl | omega
    rw [ku, k7] at hp
    rw [kk0] at hp
    rcases hp1 with ⟨rfl, h0, rfl⟩ | ⟨rfl, h0⟩
    · rw [if_neg h0] at hp
      rcases hp with ⟨h1, -⟩ | ⟨-, rfl, rfl⟩
      · exact absurd rfl h1
      · exact ⟨_, rfl, hW.put rfl, up3_s _ _ _ _ _, fun _ => ⟨h0, rfl, rfl⟩, hs0.code 0⟩
    · rw [if_pos h0] at hp
      rcases hp with ⟨-, rfl⟩ | ⟨h1, -⟩
      · exact ⟨_, rfl, hW.put rfl, up3_s _ _ _ _ _, fun h1 => absurd h1 (by decide), hs0.code 1⟩
      · exact absurd h1 (by decide)
  clear hp
  refine lv_fstore (lv' := [(7, .float z), (6, .int (iZ k)), (0, .ref b), (1, .ref (am 0 0)), (2, .ref (amM 0 0)), (3, .ref (am 9 0)), (4, .ref oD), (5, .int (iZ i))]) hx hb dL_law_1580 hl (by decide) rfl (fun ls hl => ?_)
  refine lv_aload_n hx hb dL_law_1582 rfl (lv_at hl 4 rfl) ?_
  refine lj_M_i (zrV (As := []) (rest := []) (κ := 0) (i := 0) ⟨hx, hb, hml, hown, hts⟩ (c_X5_thrown l D cM nM amM M1 H.size hW1) (cwV 0 hts gL_law_X5_thrown rfl rfl rfl (by decide +kernel) ⟨Nat.le_of_ble_eq_true rfl, Nat.le_of_ble_eq_true rfl⟩) hKM hJ.IM hv0 rfl rfl rfl hl.1 rfl (Nat.le_of_ble_eq_true rfl) dL_law_1583 ⟨by rw [hr.1]; omega, by rw [hr.2]; omega⟩) hJ (fun z2 w H hz2 hp hJ => ?_)
  obtain ⟨rfl, rfl⟩ := hp
  refine lv_iload hx hb dL_law_1586 (lv_at hl 1 rfl) ?_
  refine z_icmp_eq (tgt := 1593) hx hb dL_law_1588 (by decide) hz2 hk (fun _ => ?_) (fun hz9 => absurd h24 hz9)
  refine lv_iload hx hb dL_law_1593 (lv_at hl 1 rfl) ?_
  refine z_if_ne (tgt := 1631) hx hb dL_law_1595 (by decide) hk (fun hk0 => ?_) (fun hk0 => ?_)
  · refine lv_goto (tgt := 1699) hx hb dL_law_1631 (by decide) ?_
    exact W.widen (by omega) (by omega) (kk _ _ ⟨_, _, _, _, _, _, _, hJ, hs1, hW1, h9, lv_sub hl [2, 3, 4, 5, 6, 7] rfl⟩)
  · obtain ⟨h0, rfl, rfl⟩ := hz0 hk0
    refine lv_aload hx hb dL_law_1598 (lv_at hl 6 rfl) ?_
    refine z_iconst hx hb dL_law_1600 ?_
    refine ld_get hx hb hKD hJ.2.2.2.2.2.1.2.2 dL_law_1601 ?_
    refine lv_fload hx hb dL_law_1602 (lv_at hl 0 rfl) ?_
    refine lv_f2d hx hb dL_law_1604 (nn_64 (nn h0)) ?_
    refine lj_dcmp hx hb (nn h0) dL_law_1605 ?_
    refine z_if_eq (tgt := 1631) hx hb dL_law_1606 (by decide) (by decide) (fun _ => ?_) (fun hz9 => absurd rfl hz9)
    refine lv_goto (tgt := 1699) hx hb dL_law_1631 (by decide) ?_
    exact W.widen (by omega) (by omega) (kk _ _ ⟨_, _, _, _, _, _, _, hJ, hs1, hW1, h9, lv_sub hl [2, 3, 4, 5, 6, 7] rfl⟩)
set_option maxHeartbeats 4000000 in
set_option maxRecDepth 100000 in
theorem law_meanWaiting {p : Program} {e : Env} {s : State} {m : MethodId} {below : List Frame} {meth : Method} {c : Code} {args : Array Value} {cells slots : Nat} {Q : State → Prop} {H : Heap} {ls : Array Slot} {b L : Nat} {xs : Nat → Int32} {D : va_G} {cX cM : Nat → ClassId} {cD : ClassId} {oD : Nat} {i : Int} {q : Nat} (l : Launch) (hfl : l.stackTraces = false) (hE : lEnv p s m c args b L xs D cX cM cD) (hq : q < 600) (hi : 0 ≤ i ∧ i + 5 ≤ (L : Int) ∧ L ≤ 2560) (h : lInv D cX cM cD oD s b i q H ls) (hc : cells + 8 ≤ 762397) (hs : slots + 40 ≤ 6708562) (kk : ∀ (H : Heap) (ls : Array Slot), lInv D cX cM cD oD s b i (q + 1) H ls → W p l e room_1 s m args below meth c H [] (cells + 8) (slots + 40) Q (F0 m 1699 ls [])) : W p l e room_1 s m args below meth c H [] cells slots Q (F0 m 1634 ls []) := by
  obtain ⟨hx, hb, hml, hown, hts, hKX, hKM, hKD, hG, hN, hX, hbl⟩ := hE
  obtain ⟨n, am, S, nM, amM, M, v, hJ, hs0, hW, h9, hl⟩ := h
  have hr : room_1.cells = 762397 ∧ room_1.slots = 6708562 := ⟨rfl, rfl⟩
  have hv0 : 0 < nM 0 := hW.1 0 (by decide)
  have hvX : 0 < n 0 := hs0.1.1.1.1.1
  have bl := hs0.1.1.1.lim
  have b2 := yMN_b S (n 8)
  have nn : ¬ yMN S (n 8) = 0 → Jvm.FP.Core.dIsNaN (FP.ddiv (FP.i2d (iZ (yMS S (n 8)))) (FP.i2d (iZ (yMN S (n 8))))) = false := fun h0 => nf_d _ (iZ_ne0 ⟨by omega, by omega⟩ (by omega))
  refine lv_aload_n hx hb dL_law_1634 rfl (lv_at hl 1 rfl) ?_
  refine lv_aload hx hb dL_law_1635 (lv_at hl 4 rfl) ?_
  refine lj_D (zHD (As := [.ref (am 0 0), .ref oD]) (rest := []) ⟨hx, hb, hml, hown, hts⟩ (c_L_meanWaiting l hfl D cX n am S H.size cD oD v hs0.1.1.1 hs0.1.1.2.2.1) (vx_cwSW 2 hts gL_law_L_meanWaiting rfl rfl rfl (by decide +kernel) ⟨Nat.le_of_ble_eq_true rfl, Nat.le_of_ble_eq_true rfl⟩) hKX hKD hG hN hJ rfl hl.1 rfl (Nat.le_of_ble_eq_true rfl) dL_law_1637 ⟨by rw [hr.1]; omega, by rw [hr.2]; omega⟩) hJ (fun k v1 H hk hp1 hJ => ?_)
  refine lv_istore (lv' := [(6, .int (iZ k)), (0, .ref b), (1, .ref (am 0 0)), (2, .ref (amM 0 0)), (3, .ref (am 9 0)), (4, .ref oD), (5, .int (iZ i))]) hx hb dL_law_1640 hl (by decide) rfl (fun ls hl => ?_)
  refine lv_aload_n hx hb dL_law_1642 rfl (lv_at hl 3 rfl) ?_
  refine lj_M_d (zrV (As := []) (rest := []) (κ := 0) (i := 0) ⟨hx, hb, hml, hown, hts⟩ (c_X5_meanWaiting l D cM nM amM M H.size hW hs0.1.mR) (cwV 0 hts gL_law_X5_meanWaiting rfl rfl rfl (by decide +kernel) ⟨Nat.le_of_ble_eq_true rfl, Nat.le_of_ble_eq_true rfl⟩) hKM hJ.IM hv0 rfl rfl rfl hl.1 rfl (Nat.le_of_ble_eq_true rfl) dL_law_1643 ⟨by rw [hr.1]; omega, by rw [hr.2]; omega⟩) hJ (fun z w H hp hJ => ?_)
  obtain ⟨M1, rfl, hW1, h24, hz0, hs1⟩ : ∃ M1, w = (nM, amM, M1) ∧ mW nM M1 ∧ M1 0 0 24 = k ∧ (k = 0 → ¬ yMN S (n 8) = 0 ∧ z = FP.ddiv (FP.i2d (iZ (yMS S (n 8)))) (FP.i2d (iZ (yMN S (n 8)))) ∧ v1 = FP.ddiv (FP.i2d (iZ (yMS S (n 8)))) (FP.i2d (iZ (yMN S (n 8))))) ∧ lSim n S M1 (q + 1) := by
    have k8 : M 0 0 8 = (n 8 : Int) := hs0.1.2.1.1.2.2
    have ku := hs0.1.ms
    have kk0 : kMean M = if yMN S (n 8) = 0 then 1 else 0 := by unfold kMean; rw [k8, Int.toNat_natCast, ku.2]
    rw [k8, Int.toNat_natCast, ku.1, ku.2] at hp
    rw [kk0] at hp
    rcases hp1 with ⟨rfl, h0, rfl⟩ | ⟨rfl, h0⟩
    · rw [if_neg h0] at hp
      rcases hp with ⟨h1, -⟩ | ⟨-, rfl, rfl⟩
      · exact absurd rfl h1
      · exact ⟨_, rfl, hW.put rfl, up3_s _ _ _ _ _, fun _ => ⟨h0, rfl, rfl⟩, hs0.code 0⟩
    · rw [if_pos h0] at hp
      rcases hp with ⟨-, rfl⟩ | ⟨h1, -⟩
      · exact ⟨_, rfl, hW.put rfl, up3_s _ _ _ _ _, fun h1 => absurd h1 (by decide), hs0.code 1⟩
      · exact absurd h1 (by decide)
  clear hp
  refine lv_dstore (lv' := [(7, .double z), (6, .int (iZ k)), (0, .ref b), (1, .ref (am 0 0)), (2, .ref (amM 0 0)), (3, .ref (am 9 0)), (4, .ref oD), (5, .int (iZ i))]) hx hb dL_law_1646 hl (by decide) rfl (fun ls hl => ?_)
  refine lv_aload_n hx hb dL_law_1648 rfl (lv_at hl 4 rfl) ?_
  refine lj_M_i (zrV (As := []) (rest := []) (κ := 0) (i := 0) ⟨hx, hb, hml, hown, hts⟩ (c_X5_thrown l D cM nM amM M1 H.size hW1) (cwV 0 hts gL_law_X5_thrown rfl rfl rfl (by decide +kernel) ⟨Nat.le_of_ble_eq_true rfl, Nat.le_of_ble_eq_true rfl⟩) hKM hJ.IM hv0 rfl rfl rfl hl.1 rfl (Nat.le_of_ble_eq_true rfl) dL_law_1649 ⟨by rw [hr.1]; omega, by rw [hr.2]; omega⟩) hJ (fun z2 w H hz2 hp hJ => ?_)
  obtain ⟨rfl, rfl⟩ := hp
  refine lv_iload hx hb dL_law_1652 (lv_at hl 1 rfl) ?_
  refine z_icmp_eq (tgt := 1659) hx hb dL_law_1654 (by decide) hz2 hk (fun _ => ?_) (fun hz9 => absurd h24 hz9)
  refine lv_iload hx hb dL_law_1659 (lv_at hl 1 rfl) ?_
  refine z_if_ne (tgt := 1696) hx hb dL_law_1661 (by decide) hk (fun hk0 => ?_) (fun hk0 => ?_)
  · refine lv_goto (tgt := 1699) hx hb dL_law_1696 (by decide) ?_
    exact W.widen (by omega) (by omega) (kk _ _ ⟨_, _, _, _, _, _, _, hJ, hs1, hW1, h9, lv_sub hl [2, 3, 4, 5, 6, 7] rfl⟩)
  · obtain ⟨h0, rfl, rfl⟩ := hz0 hk0
    refine lv_aload hx hb dL_law_1664 (lv_at hl 6 rfl) ?_
    refine z_iconst hx hb dL_law_1666 ?_
    refine ld_get hx hb hKD hJ.2.2.2.2.2.1.2.2 dL_law_1667 ?_
    refine lv_dload hx hb dL_law_1668 (lv_at hl 0 rfl) ?_
    refine lj_dcmp hx hb (nn h0) dL_law_1670 ?_
    refine z_if_eq (tgt := 1696) hx hb dL_law_1671 (by decide) (by decide) (fun _ => ?_) (fun hz9 => absurd rfl hz9)
    refine lv_goto (tgt := 1699) hx hb dL_law_1696 (by decide) ?_
    exact W.widen (by omega) (by omega) (kk _ _ ⟨_, _, _, _, _, _, _, hJ, hs1, hW1, h9, lv_sub hl [2, 3, 4, 5, 6, 7] rfl⟩)
