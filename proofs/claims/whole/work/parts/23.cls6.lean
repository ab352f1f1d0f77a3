/-! A throw from a store that has changed. -/
abbrev zXE (tab : ts_Tab) (D : va_G) (cA : Nat → ClassId) (u : ts_W) (sz : Nat) (px : String → ts_W → Prop) : String → State → State → Prop := vx_X (fun (_ : ts_W) => True) (fun (E : String) (u' : ts_W) (t : State) => px E u' ∧ zBu tab D cA u sz u' t) (ts_A u sz)
section ZE
variable {p : Program} {l : Launch} {e : Env} {R : Room} {s : State} {m : MethodId} {args : Array Value} {below : List Frame} {meth : Method} {c : Code} {H : Heap} {locs : List Loc} {cells slots : Nat} {Q : State → Prop} {cc : ByteArray} {pc : Nat} {ls : Array Slot} {rest st0 : List Value} {a : Array Value}
variable {tab : ts_Tab} {D : va_G} {cA : Nat → ClassId} {u u' : ts_W} {Qc : Array Value → State → Outcome → State → Prop} {pxE : String → ts_W → Prop} {cls text : String} {ik is ic mc ms : Nat}
theorem zx_throwE (hx : p.tables.exec = Jvm.exec) (hb : c.code = cc) (hl : l.stackTraces = false) (hown : s.vm.findClass RX4 = some m.cls) (hG : gX (ts_A u s.heap.size) s s.heap) (hI : ts_I tab D cA (ts_A u s.heap.size) s.heap u' H locs) (hX : cls ∈ gX_cls) (hcls : Bundle.fit cls = true)
    (hk : (Cond.classLink RX4 ik cls).before args s = true) (hini : (Cond.initialized cls).before args s = true) (h1 : ∀ w ∈ (vx_atS RX4 ic cls gX_names).filter goodWord, w.before args s = true) (h2 : ∀ w ∈ (vx_atS RX4 ic cls gX_names).filter (fun w => !goodWord w), w ∈ [.declares (Bundle.initS "java/lang/RuntimeException"), .declares (Bundle.initS "java/lang/Exception"), .declares (Bundle.initS "java/lang/Throwable"), .castable cls cls])
    (hgood : ∀ w ∈ Cond.classLink RX4 ik cls :: Cond.initialized cls :: vx_atS RX4 ic cls gX_names, vx_ot w = true) (hstr : (is, text) ∈ gX_strs) (hsize : ls.size = c.maxLocals)
    (d0 : decode cc pc = .ok (.new ik, 3)) (d3 : decode cc (pc + 3) = .ok (.dup, 1)) (d4 : decode cc (pc + 4) = .ok (.ldc is, 2)) (d6 : decode cc (pc + 6) = .ok (.invokespecial ic, 3)) (d9 : decode cc (pc + 9) = .ok (.athrow, 1)) (hout : ∀ x ∈ c.exceptionTable.toList, False)
    (hRf : 5 < R.frames) (hRl : (rest.map fun v => v.category).sum + 82 ≤ R.locals) (hRc : cells + 1 ≤ R.cells) (hRs : slots + 6 ≤ R.slots) (hlocks : meth.locks = false) (hp : pxE cls u') (hc : cells + 1 ≤ mc) (hs : slots + 6 ≤ ms) :
    W p l e R s m args below meth c H locs cells slots (vx_MQ below Qc (zXE tab D cA u s.heap.size pxE) args s mc ms (ts_A u s.heap.size)) (F0 m pc ls rest) := by
  obtain ⟨sa, hsa⟩ := hG.2.2.1 _ hstr
  refine vx_throwS hx hb hl (names := gX_names) (A := ts_A u s.heap.size) hown hcls gX_fit hk hini hsa (gX_hat hG hX h1 h2) hgood hG.1 hG.2.1 hI.2.2 hsize d0 d3 d4 d6 d9 (fun x h => (hout x h).elim) hRf hRl hRc hRs hlocks (fun t hvm hz hq => ?_) hI.2.2.2.2 hc hs
  refine ⟨u', trivial, ⟨hp, ⟨fun κ i hi => (hI.1.1 κ i hi).kept (hq _ (hI.1.1 κ i hi).lt), hI.1.2⟩, fun q h => ?_⟩, Nat.le_trans hI.2.2.1 hz, fun q h1 h2 => (hq q (Nat.lt_of_lt_of_le h1 hI.2.2.1)).trans (hI.2.2.2.1 q h1 h2)⟩
  rcases h with h | h
  · exact hI.2.1 q (Or.inl h)
  · exact hI.2.1 q (Or.inr (Nat.le_trans hz h))
theorem zx_throwWE (hx : p.tables.exec = Jvm.exec) (hb : c.code = cc) (hl : l.stackTraces = false) (hown : s.vm.findClass RX4 = some m.cls) (hG : gX (ts_A u s.heap.size) s s.heap) (hI : ts_I tab D cA (ts_A u s.heap.size) s.heap u' H locs) (hX : cls ∈ gX_cls) (hcls : Bundle.fit cls = true)
    (hk : (Cond.classLink RX4 ik cls).before args s = true) (hini : (Cond.initialized cls).before args s = true) (h1 : ∀ w ∈ (vx_atS RX4 ic cls gX_names).filter goodWord, w.before args s = true) (h2 : ∀ w ∈ (vx_atS RX4 ic cls gX_names).filter (fun w => !goodWord w), w ∈ [.declares (Bundle.initS "java/lang/RuntimeException"), .declares (Bundle.initS "java/lang/Exception"), .declares (Bundle.initS "java/lang/Throwable"), .castable cls cls])
    (hgood : ∀ w ∈ Cond.classLink RX4 ik cls :: Cond.initialized cls :: vx_atS RX4 ic cls gX_names, vx_ot w = true) (hstr : (is, text) ∈ gX_strs) (hsize : ls.size = c.maxLocals)
    (d0 : decode cc pc = .ok (.new ik, 3)) (d3 : decode cc (pc + 3) = .ok (.dup, 1)) (d4 : decode cc (pc + 4) = .ok (.ldc_w is, 3)) (d6 : decode cc (pc + 7) = .ok (.invokespecial ic, 3)) (d9 : decode cc (pc + 10) = .ok (.athrow, 1)) (hout : ∀ x ∈ c.exceptionTable.toList, False)
    (hRf : 5 < R.frames) (hRl : (rest.map fun v => v.category).sum + 82 ≤ R.locals) (hRc : cells + 1 ≤ R.cells) (hRs : slots + 6 ≤ R.slots) (hlocks : meth.locks = false) (hp : pxE cls u') (hc : cells + 1 ≤ mc) (hs : slots + 6 ≤ ms) :
    W p l e R s m args below meth c H locs cells slots (vx_MQ below Qc (zXE tab D cA u s.heap.size pxE) args s mc ms (ts_A u s.heap.size)) (F0 m pc ls rest) := by
  obtain ⟨sa, hsa⟩ := hG.2.2.1 _ hstr
  refine vx_throwSW hx hb hl (names := gX_names) (A := ts_A u s.heap.size) hown hcls gX_fit hk hini hsa (gX_hat hG hX h1 h2) hgood hG.1 hG.2.1 hI.2.2 hsize d0 d3 d4 d6 d9 (fun x h => (hout x h).elim) hRf hRl hRc hRs hlocks (fun t hvm hz hq => ?_) hI.2.2.2.2 hc hs
  refine ⟨u', trivial, ⟨hp, ⟨fun κ i hi => (hI.1.1 κ i hi).kept (hq _ (hI.1.1 κ i hi).lt), hI.1.2⟩, fun q h => ?_⟩, Nat.le_trans hI.2.2.1 hz, fun q h1 h2 => (hq q (Nat.lt_of_lt_of_le h1 hI.2.2.1)).trans (hI.2.2.2.1 q h1 h2)⟩
  rcases h with h | h
  · exact hI.2.1 q (Or.inl h)
  · exact hI.2.1 q (Or.inr (Nat.le_trans hz h))
theorem zx_outE {Qc0 : Array Value → State → Outcome → State → Prop} {E : String} {ce : Cell} {q : Addr} {mc0 ms0 : Nat} (hI : ts_I tab D cA (ts_A u s.heap.size) s.heap u' H locs) (hout : ∀ x ∈ c.exceptionTable.toList, False) (hlocks : meth.locks = false) (hcell : H[q]? = some ce) (hv : ce.vm = .none) (hcl : s.vm.findClass E = some ce.cls) (hp : pxE E u') (hc : cells ≤ mc0) (hs : slots ≤ ms0) :
    vx_W p l e R s m args below meth c H locs cells slots (vx_MQ below Qc0 (zXE tab D cA u s.heap.size pxE) args s mc0 ms0 (ts_A u s.heap.size)) (F0 m pc ls rest) q :=
  vx_out (fun x h => (hout x h).elim) hlocks hcell hv hcl (fun t ht hvm => ⟨u', trivial, ⟨hp, by rw [ht]; exact hI.1, by rw [ht]; exact hI.2.1⟩, hI.2.2.F ht⟩) hI.2.2.2.2 hc hs
theorem zxcE_q {k : Nat} {post : Int → ts_W → Prop} {Qc0 : Array Value → State → Outcome → State → Prop} {px : String → Prop} {px0 : String → ts_W → Prop} {mc0 ms0 : Nat} (hr : vx_Run p l e R s m args below meth c H locs cells slots mc ms (F0 m pc ls st0) rest (zQq tab D cA u H.size k post a) (zXX tab D cA u H.size px) (ts_A u H.size)) (hI : ts_I tab D cA (ts_A u s.heap.size) s.heap u H locs) (hout : ∀ x ∈ c.exceptionTable.toList, False) (hlocks : meth.locks = false) (hpx : ∀ E, px E → px0 E u) (hc : cells + mc ≤ mc0) (hs : slots + ms ≤ ms0) (hnn : ∀ z u', post z u' → 0 ≤ z)
    (kk : ∀ (j : Nat) (u' : ts_W) (H1 : Heap) (locs1 : List Loc), j < u'.1 k → post (j : Int) u' → ts_I tab D cA (ts_A u s.heap.size) s.heap u' H1 locs1 → W p l e R s m args below meth c H1 locs1 (cells + mc) (slots + ms) (vx_MQ below Qc0 (zXE tab D cA u s.heap.size px0) args s mc0 ms0 (ts_A u s.heap.size)) (F0 m (pc + 3) ls (.ref (u'.2.1 k j) :: rest))) : W p l e R s m args below meth c H locs cells slots (vx_MQ below Qc0 (zXE tab D cA u s.heap.size px0) args s mc0 ms0 (ts_A u s.heap.size)) (F0 m pc ls st0) :=
  vx_callq hr hI.2.2 (fun q _ h => hI.2.1 q h) (fun q h => hI.2.1 q h) (fun q _ h => hI.2.1 q h) (fun E ce q9 u1 t H1 locs1 ht hvm _ hB hz hk hS hcell hv hcl => by
    subst ht
    exact zx_outE ⟨hB.2.1, fun q h => hI.2.1 q (hB.2.2 q h), hS⟩ hout hlocks hcell hv hcl (hpx E hB.1) hc hs) (fun r u1 t H1 locs1 ht hvm hp hB hz hk hS => by
    obtain ⟨z, rfl, -, hz2, hp⟩ := hp
    subst ht
    obtain ⟨j, rfl⟩ := Int.eq_ofNat_of_zero_le (hnn z u1 hp)
    rw [ts_rf_r (hnn _ u1 hp)]
    exact kk j u1 _ locs1 (by omega) hp ⟨hB.1, fun q h => hI.2.1 q (hB.2 q h), hS⟩)
end ZE

set_option maxHeartbeats 4000000 in
set_option maxRecDepth 100000 in
theorem c_X4_fewestMoves (l : Launch) (hfl : l.stackTraces = false) (D : va_G) (cA : Nat → ClassId) (n : Nat → Nat) (am : ts_Am) (S : ts_St) (sz : Nat) (x : Int) (Z : ts_St) (hW : cW n S) (hx0 : iR x) (hcr : cR n S) (hJ : cJ n S) (hZ : ∀ x : Nat, 0 ≤ Z 15 0 x ∧ Z 15 0 x ≤ 3) : vx_Met l yX4_fewestMoves wsX4_fewestMoves ({ frames := 7, cells := 3, slots := 18, locals := 175 } : Room) (va_Pc [.ref (am 0 0), .int (iZ x)] (zPX TX D cA (n, am, S) sz)) (zQi TX D cA (n, am, S) sz (fun z u => ((0 ≤ x ∧ x < (n 8 : Int)) ∧ 0 ≤ S 8 x.toNat 7) ∧ ∃ (S9 : ts_St) (d : Nat), u = (n, am, S9) ∧ cEq n S S9 ∧ d ≤ 4 ∧ z = (d : Int) ∧ mRch d (yV n S Z) x ∧ ∀ q : Nat, q < d → ¬ mRch q (yV n S Z) x)) (zXE TX D cA (n, am, S) sz (fun E u => (E = xN_NSE ∧ ¬ (0 ≤ x ∧ x < (n 8 : Int)) ∧ u = (n, am, S)) ∨ (E = xN_ISE ∧ (0 ≤ x ∧ x < (n 8 : Int)) ∧ S 8 x.toNat 7 < 0 ∧ u = (n, am, S)) ∨ (E = xN_UOE ∧ ((0 ≤ x ∧ x < (n 8 : Int)) ∧ 0 ≤ S 8 x.toNat 7) ∧ (∃ S9 : ts_St, u = (n, am, S9) ∧ cEq n S S9) ∧ ∀ q : Nat, q ≤ 4 → ¬ mRch q (yV n S Z) x))) 3 18 (ts_A (n, am, S) sz) := by
  refine zMx_of (by decide) rfl (Nat.le_of_ble_eq_true rfl) ?_
  intro p e s m below meth c hx hb hr hts hown hlocks hml hex hK hG hsz H locs hI ls hl
  subst hsz
  have hown : s.vm.findClass RX4 = some m.cls := hown
  have hl : lv_has ls 5 [(0, .ref (am 0 0)), (1, .int (iZ x))] := hl
  have f10 := hts (.fieldLink RX4 10 "DockyardSlots" "lanes" "LDockyardSlots$LaneRow;") (by decide +kernel)
  have LX4 : ∀ w ∈ wsX40, w.before [.ref (am 0 0), .int (iZ x)].toArray s = true := fun w h => hts w (List.mem_cons_of_mem _ (List.mem_append_left _ (List.mem_append_left _ (List.mem_append_left _ (List.mem_append_left _ (List.mem_append_left _ (List.mem_append_left _ (List.mem_append_right _ h))))))))
  have hcn := hW.cn
  have hlim := hW.lim
  refine lv_aload_n hx hb dX4_fewestMoves_0 rfl (lv_at hl 0 rfl) ?_
  refine lv_iload_n hx hb dX4_fewestMoves_1 rfl (lv_at hl 1 rfl) ?_
  refine zxcE_q (zxV (As := [.int (iZ x)]) (rest := []) (κ := 0) (i := 0) ⟨hx, hb, hml, hown, hts⟩ (c_X4_appointmentOrThrow l hfl D cA n am S H.size x hW (by omega)) (cwV 1 hts gX4_fewestMoves_X4_appointmentOrThrow rfl rfl rfl (by decide +kernel) ⟨Nat.le_of_ble_eq_true rfl, Nat.le_of_ble_eq_true rfl⟩) hK hI hG hW.1.1 rfl rfl rfl hl.1 rfl (Nat.le_of_ble_eq_true rfl) dX4_fewestMoves_2 ⟨Nat.le_of_ble_eq_true rfl, Nat.le_of_ble_eq_true rfl⟩) hI hex hlocks (fun E q => Or.inl ⟨q.1, q.2, rfl⟩) (Nat.le_of_ble_eq_true rfl) (Nat.le_of_ble_eq_true rfl) (fun z u q => q.1.1) (fun j1 u9 H locs v2 hp3 hI => ?_)
  obtain ⟨⟨q4, q5, q6⟩, rfl⟩ := hp3
  obtain rfl : j1 = x.toNat := by omega
  have v2 : x.toNat < n 8 := v2
  refine lv_astore_n (lv' := [(2, .ref (am 8 x.toNat)), (0, .ref (am 0 0)), (1, .int (iZ x))]) hx hb dX4_fewestMoves_5 rfl hl (by decide) rfl (fun ls hl => ?_)
  refine lv_aload_n hx hb dX4_fewestMoves_6 rfl (lv_at hl 0 rfl) ?_
  refine zxcE_q (zxS (As := [.ref (am 8 x.toNat)]) (rest := []) ⟨hx, hb, hml, hown, hts⟩ (c_X4_homeOrThrow l hfl D cA n am S H.size x.toNat hW v2) (va_cwS 1 hts gX4_fewestMoves_X4_homeOrThrow rfl rfl rfl (by decide +kernel) ⟨Nat.le_of_ble_eq_true rfl, Nat.le_of_ble_eq_true rfl⟩) hK hI hG rfl hl.1 rfl (Nat.le_of_ble_eq_true rfl) dX4_fewestMoves_7 ⟨Nat.le_of_ble_eq_true rfl, Nat.le_of_ble_eq_true rfl⟩) hI hex hlocks (fun E q => Or.inr (Or.inl ⟨q.1, by omega, q.2, rfl⟩)) (Nat.le_of_ble_eq_true rfl) (Nat.le_of_ble_eq_true rfl) (fun z u q => q.1.1) (fun j7 u9 H locs v8 hp9 hI => ?_)
  obtain ⟨⟨q10, q11⟩, rfl⟩ := hp9
  obtain rfl : j7 = (S 8 x.toNat 7).toNat := by omega
  have v8 : (S 8 x.toNat 7).toNat < n 5 := v8
  refine lv_astore_n (lv' := [(3, .ref (am 5 ((S 8 x.toNat 7).toNat))), (2, .ref (am 8 x.toNat)), (0, .ref (am 0 0)), (1, .int (iZ x))]) hx hb dX4_fewestMoves_10 rfl hl (by decide) rfl (fun ls hl => ?_)
  have hxt : ((x.toNat : Nat) : Int) = x := by omega
  have hIv0 : cIv n S Z x.toNat := ⟨hW, hcr, hJ, hZ, by omega, by omega⟩
  have hh0 : S 8 x.toNat 7 = (((S 8 x.toNat 7).toNat : Nat) : Int) := by omega
  have heq0 := cEq.rfl' n S
  refine z_iconst hx hb dX4_fewestMoves_11 ?_
  refine lv_istore (lv' := [(4, .int (iZ 0)), (3, .ref (am 5 ((S 8 x.toNat 7).toNat))), (2, .ref (am 8 x.toNat)), (0, .ref (am 0 0)), (1, .int (iZ x))]) hx hb dX4_fewestMoves_12 hl (by decide) rfl (fun ls hl => ?_)
  refine lv_iload hx hb dX4_fewestMoves_14 (lv_at hl 0 rfl) ?_
  refine z_iconst hx hb dX4_fewestMoves_16 ?_
  refine z_icmp_gt (tgt := 40) hx hb dX4_fewestMoves_17 (by decide) (by omega) (by omega) (fun c12 => ?_) (fun c12 => ?_)
  · skip
    omega
  · skip
    have hIvk := hIv0.eq heq0
    have hhk := (heq0.1 8 x.toNat 7 (by decide)).trans hh0
    refine lv_aload_n hx hb dX4_fewestMoves_20 rfl (lv_at hl 3 rfl) ?_
    refine zg_r (κ := 0) (i := 0) (k := 0) (t := 1) (j := 0) hx hb LX4 hown hK hI hW.1.1 rfl rfl (by decide) rfl f10 (fun _ h9 => h9) dX4_fewestMoves_21 hW.2.1.1 (fun v13 => ?_)
    refine lv_aload_n hx hb dX4_fewestMoves_24 rfl (lv_at hl 1 rfl) ?_
    refine lv_aload_n hx hb dX4_fewestMoves_25 rfl (lv_at hl 2 rfl) ?_
    refine lv_iload hx hb dX4_fewestMoves_26 (lv_at hl 0 rfl) ?_
    refine zc_i (zrS (As := [.ref (am 1 0), .ref (am 5 ((S 8 x.toNat 7).toNat)), .ref (am 8 x.toNat), .int (iZ 0)]) (rest := []) ⟨hx, hb, hml, hown, hts⟩ (c_X4_isReachedWithin_0 l D cA n am S H.size ((S 8 x.toNat 7).toNat) x.toNat 0 Z hW v8 v2 hIvk hhk (by omega)) (va_cwS 4 hts gX4_fewestMoves_X4_isReachedWithin rfl rfl rfl (by decide +kernel) ⟨Nat.le_of_ble_eq_true rfl, Nat.le_of_ble_eq_true rfl⟩) hK hI rfl hl.1 rfl (Nat.le_of_ble_eq_true rfl) dX4_fewestMoves_28 ⟨Nat.le_of_ble_eq_true rfl, Nat.le_of_ble_eq_true rfl⟩) hI (fun z14 u9 H locs hz15 hp16 hI hfr => ?_)
    clear hfr
    obtain ⟨S17, rfl, hS17, rfl⟩ := hp16
    have hW : cW n S17 := hS17.W hW
    have heq1 := heq0.trans hS17
    refine z_if_ne (tgt := 40) hx hb dX4_fewestMoves_31 (by decide) (by omega) (fun c18 => ?_) (fun c18 => ?_)
    · skip
      have c18 := zB_1 c18
      refine lv_iload hx hb dX4_fewestMoves_40 (lv_at hl 0 rfl) ?_
      refine z_iconst hx hb dX4_fewestMoves_42 ?_
      refine z_icmp_le (tgt := 56) hx hb dX4_fewestMoves_43 (by decide) (by omega) (by omega) (fun c19 => ?_) (fun c19 => ?_)
      · skip
        refine lv_iload hx hb dX4_fewestMoves_56 (lv_at hl 0 rfl) ?_
        exact vx_ret (ze_i (u' := (n, am, S17)) (z := 0) hx hb hr rfl hI (by omega) ⟨⟨by omega, by omega⟩, S17, 0, rfl, heq1, by decide, rfl, (by have q := (mRch_eq 0 (heq0.V Z) hIv0.m).mp c18; rw [hxt] at q; exact q), fun q hq => absurd hq (Nat.not_lt_zero q)⟩ (Nat.le_of_ble_eq_true rfl) (Nat.le_of_ble_eq_true rfl) dX4_fewestMoves_58 hlocks)
      · skip
        omega
    · skip
      have c18 := zB_0 c18
      have hn0 : ¬ mRch 0 (yV n S Z) x := fun q => c18 ((mRch_eq 0 (heq0.V Z) hIv0.m).mpr (by rw [hxt]; exact q))
      refine z_iinc (k := 0) (lv' := [(4, .int (iZ (0 + 1))), (3, .ref (am 5 ((S 8 x.toNat 7).toNat))), (2, .ref (am 8 x.toNat)), (0, .ref (am 0 0)), (1, .int (iZ x))]) hx hb dX4_fewestMoves_34 hl rfl (by decide) rfl (fun ls hl => ?_)
      refine lv_goto (tgt := 14) hx hb dX4_fewestMoves_37 (by decide) ?_
      refine lv_iload hx hb dX4_fewestMoves_14 (lv_at hl 0 rfl) ?_
      refine z_iconst hx hb dX4_fewestMoves_16 ?_
      refine z_icmp_gt (tgt := 40) hx hb dX4_fewestMoves_17 (by decide) (by omega) (by omega) (fun c20 => ?_) (fun c20 => ?_)
      · skip
        omega
      · skip
        have hIvk := hIv0.eq heq1
        have hhk := (heq1.1 8 x.toNat 7 (by decide)).trans hh0
        refine lv_aload_n hx hb dX4_fewestMoves_20 rfl (lv_at hl 3 rfl) ?_
        refine zg_r (κ := 0) (i := 0) (k := 0) (t := 1) (j := 0) hx hb LX4 hown hK hI hW.1.1 rfl rfl (by decide) rfl f10 (fun _ h9 => h9) dX4_fewestMoves_21 hW.2.1.1 (fun v21 => ?_)
        refine lv_aload_n hx hb dX4_fewestMoves_24 rfl (lv_at hl 1 rfl) ?_
        refine lv_aload_n hx hb dX4_fewestMoves_25 rfl (lv_at hl 2 rfl) ?_
        refine lv_iload hx hb dX4_fewestMoves_26 (lv_at hl 0 rfl) ?_
        refine zc_i (zrS (As := [.ref (am 1 0), .ref (am 5 ((S 8 x.toNat 7).toNat)), .ref (am 8 x.toNat), .int (iZ (0 + 1))]) (rest := []) ⟨hx, hb, hml, hown, hts⟩ (c_X4_isReachedWithin_1 l D cA n am S17 H.size ((S 8 x.toNat 7).toNat) x.toNat (0 + 1) Z hW v8 v2 hIvk hhk (by omega)) (va_cwS 4 hts gX4_fewestMoves_X4_isReachedWithin rfl rfl rfl (by decide +kernel) ⟨Nat.le_of_ble_eq_true rfl, Nat.le_of_ble_eq_true rfl⟩) hK hI rfl hl.1 rfl (Nat.le_of_ble_eq_true rfl) dX4_fewestMoves_28 ⟨Nat.le_of_ble_eq_true rfl, Nat.le_of_ble_eq_true rfl⟩) hI (fun z22 u9 H locs hz23 hp24 hI hfr => ?_)
        clear hfr
        obtain ⟨S25, rfl, hS25, rfl⟩ := hp24
        have hW : cW n S25 := hS25.W hW
        have heq2 := heq1.trans hS25
        refine z_if_ne (tgt := 40) hx hb dX4_fewestMoves_31 (by decide) (by omega) (fun c26 => ?_) (fun c26 => ?_)
        · skip
          have c26 := zB_1 c26
          refine lv_iload hx hb dX4_fewestMoves_40 (lv_at hl 0 rfl) ?_
          refine z_iconst hx hb dX4_fewestMoves_42 ?_
          refine z_icmp_le (tgt := 56) hx hb dX4_fewestMoves_43 (by decide) (by omega) (by omega) (fun c27 => ?_) (fun c27 => ?_)
          · skip
            refine lv_iload hx hb dX4_fewestMoves_56 (lv_at hl 0 rfl) ?_
            exact vx_ret (ze_i (u' := (n, am, S25)) (z := (0 + 1)) hx hb hr rfl hI (by omega) ⟨⟨by omega, by omega⟩, S25, 1, rfl, heq2, by decide, rfl, (by have q := (mRch_eq 1 (heq1.V Z) hIv0.m).mp c26; rw [hxt] at q; exact q), fun q hq => by rcases (show q = 0 by omega) with rfl <;> assumption⟩ (Nat.le_of_ble_eq_true rfl) (Nat.le_of_ble_eq_true rfl) dX4_fewestMoves_58 hlocks)
          · skip
            omega
        · skip
          have c26 := zB_0 c26
          have hn1 : ¬ mRch 1 (yV n S Z) x := fun q => c26 ((mRch_eq 1 (heq1.V Z) hIv0.m).mpr (by rw [hxt]; exact q))
          refine z_iinc (k := 0) (lv' := [(4, .int (iZ ((0 + 1) + 1))), (3, .ref (am 5 ((S 8 x.toNat 7).toNat))), (2, .ref (am 8 x.toNat)), (0, .ref (am 0 0)), (1, .int (iZ x))]) hx hb dX4_fewestMoves_34 hl rfl (by decide) rfl (fun ls hl => ?_)
          refine lv_goto (tgt := 14) hx hb dX4_fewestMoves_37 (by decide) ?_
          refine lv_iload hx hb dX4_fewestMoves_14 (lv_at hl 0 rfl) ?_
          refine z_iconst hx hb dX4_fewestMoves_16 ?_
          refine z_icmp_gt (tgt := 40) hx hb dX4_fewestMoves_17 (by decide) (by omega) (by omega) (fun c28 => ?_) (fun c28 => ?_)
          · skip
            omega
          · skip
            have hIvk := hIv0.eq heq2
            have hhk := (heq2.1 8 x.toNat 7 (by decide)).trans hh0
            refine lv_aload_n hx hb dX4_fewestMoves_20 rfl (lv_at hl 3 rfl) ?_
            refine zg_r (κ := 0) (i := 0) (k := 0) (t := 1) (j := 0) hx hb LX4 hown hK hI hW.1.1 rfl rfl (by decide) rfl f10 (fun _ h9 => h9) dX4_fewestMoves_21 hW.2.1.1 (fun v29 => ?_)
            refine lv_aload_n hx hb dX4_fewestMoves_24 rfl (lv_at hl 1 rfl) ?_
            refine lv_aload_n hx hb dX4_fewestMoves_25 rfl (lv_at hl 2 rfl) ?_
            refine lv_iload hx hb dX4_fewestMoves_26 (lv_at hl 0 rfl) ?_
            refine zc_i (zrS (As := [.ref (am 1 0), .ref (am 5 ((S 8 x.toNat 7).toNat)), .ref (am 8 x.toNat), .int (iZ ((0 + 1) + 1))]) (rest := []) ⟨hx, hb, hml, hown, hts⟩ (c_X4_isReachedWithin_2 l D cA n am S25 H.size ((S 8 x.toNat 7).toNat) x.toNat ((0 + 1) + 1) Z hW v8 v2 hIvk hhk (by omega)) (va_cwS 4 hts gX4_fewestMoves_X4_isReachedWithin rfl rfl rfl (by decide +kernel) ⟨Nat.le_of_ble_eq_true rfl, Nat.le_of_ble_eq_true rfl⟩) hK hI rfl hl.1 rfl (Nat.le_of_ble_eq_true rfl) dX4_fewestMoves_28 ⟨Nat.le_of_ble_eq_true rfl, Nat.le_of_ble_eq_true rfl⟩) hI (fun z30 u9 H locs hz31 hp32 hI hfr => ?_)
            clear hfr
            obtain ⟨S33, rfl, hS33, rfl⟩ := hp32
            have hW : cW n S33 := hS33.W hW
            have heq3 := heq2.trans hS33
            refine z_if_ne (tgt := 40) hx hb dX4_fewestMoves_31 (by decide) (by omega) (fun c34 => ?_) (fun c34 => ?_)
            · skip
              have c34 := zB_1 c34
              refine lv_iload hx hb dX4_fewestMoves_40 (lv_at hl 0 rfl) ?_
              refine z_iconst hx hb dX4_fewestMoves_42 ?_
              refine z_icmp_le (tgt := 56) hx hb dX4_fewestMoves_43 (by decide) (by omega) (by omega) (fun c35 => ?_) (fun c35 => ?_)
              · skip
                refine lv_iload hx hb dX4_fewestMoves_56 (lv_at hl 0 rfl) ?_
                exact vx_ret (ze_i (u' := (n, am, S33)) (z := ((0 + 1) + 1)) hx hb hr rfl hI (by omega) ⟨⟨by omega, by omega⟩, S33, 2, rfl, heq3, by decide, rfl, (by have q := (mRch_eq 2 (heq2.V Z) hIv0.m).mp c34; rw [hxt] at q; exact q), fun q hq => by rcases (show q = 0 ∨ q = 1 by omega) with rfl | rfl <;> assumption⟩ (Nat.le_of_ble_eq_true rfl) (Nat.le_of_ble_eq_true rfl) dX4_fewestMoves_58 hlocks)
              · skip
                omega
            · skip
              have c34 := zB_0 c34
              have hn2 : ¬ mRch 2 (yV n S Z) x := fun q => c34 ((mRch_eq 2 (heq2.V Z) hIv0.m).mpr (by rw [hxt]; exact q))
              refine z_iinc (k := 0) (lv' := [(4, .int (iZ (((0 + 1) + 1) + 1))), (3, .ref (am 5 ((S 8 x.toNat 7).toNat))), (2, .ref (am 8 x.toNat)), (0, .ref (am 0 0)), (1, .int (iZ x))]) hx hb dX4_fewestMoves_34 hl rfl (by decide) rfl (fun ls hl => ?_)
              refine lv_goto (tgt := 14) hx hb dX4_fewestMoves_37 (by decide) ?_
              refine lv_iload hx hb dX4_fewestMoves_14 (lv_at hl 0 rfl) ?_
              refine z_iconst hx hb dX4_fewestMoves_16 ?_
              refine z_icmp_gt (tgt := 40) hx hb dX4_fewestMoves_17 (by decide) (by omega) (by omega) (fun c36 => ?_) (fun c36 => ?_)
              · skip
                omega
              · skip
                have hIvk := hIv0.eq heq3
                have hhk := (heq3.1 8 x.toNat 7 (by decide)).trans hh0
                refine lv_aload_n hx hb dX4_fewestMoves_20 rfl (lv_at hl 3 rfl) ?_
                refine zg_r (κ := 0) (i := 0) (k := 0) (t := 1) (j := 0) hx hb LX4 hown hK hI hW.1.1 rfl rfl (by decide) rfl f10 (fun _ h9 => h9) dX4_fewestMoves_21 hW.2.1.1 (fun v37 => ?_)
                refine lv_aload_n hx hb dX4_fewestMoves_24 rfl (lv_at hl 1 rfl) ?_
                refine lv_aload_n hx hb dX4_fewestMoves_25 rfl (lv_at hl 2 rfl) ?_
                refine lv_iload hx hb dX4_fewestMoves_26 (lv_at hl 0 rfl) ?_
                refine zc_i (zrS (As := [.ref (am 1 0), .ref (am 5 ((S 8 x.toNat 7).toNat)), .ref (am 8 x.toNat), .int (iZ (((0 + 1) + 1) + 1))]) (rest := []) ⟨hx, hb, hml, hown, hts⟩ (c_X4_isReachedWithin_3 l D cA n am S33 H.size ((S 8 x.toNat 7).toNat) x.toNat (((0 + 1) + 1) + 1) Z hW v8 v2 hIvk hhk (by omega)) (va_cwS 4 hts gX4_fewestMoves_X4_isReachedWithin rfl rfl rfl (by decide +kernel) ⟨Nat.le_of_ble_eq_true rfl, Nat.le_of_ble_eq_true rfl⟩) hK hI rfl hl.1 rfl (Nat.le_of_ble_eq_true rfl) dX4_fewestMoves_28 ⟨Nat.le_of_ble_eq_true rfl, Nat.le_of_ble_eq_true rfl⟩) hI (fun z38 u9 H locs hz39 hp40 hI hfr => ?_)
                clear hfr
                obtain ⟨S41, rfl, hS41, rfl⟩ := hp40
                have hW : cW n S41 := hS41.W hW
                have heq4 := heq3.trans hS41
                refine z_if_ne (tgt := 40) hx hb dX4_fewestMoves_31 (by decide) (by omega) (fun c42 => ?_) (fun c42 => ?_)
                · skip
                  have c42 := zB_1 c42
                  refine lv_iload hx hb dX4_fewestMoves_40 (lv_at hl 0 rfl) ?_
                  refine z_iconst hx hb dX4_fewestMoves_42 ?_
                  refine z_icmp_le (tgt := 56) hx hb dX4_fewestMoves_43 (by decide) (by omega) (by omega) (fun c43 => ?_) (fun c43 => ?_)
                  · skip
                    refine lv_iload hx hb dX4_fewestMoves_56 (lv_at hl 0 rfl) ?_
                    exact vx_ret (ze_i (u' := (n, am, S41)) (z := (((0 + 1) + 1) + 1)) hx hb hr rfl hI (by omega) ⟨⟨by omega, by omega⟩, S41, 3, rfl, heq4, by decide, rfl, (by have q := (mRch_eq 3 (heq3.V Z) hIv0.m).mp c42; rw [hxt] at q; exact q), fun q hq => by rcases (show q = 0 ∨ q = 1 ∨ q = 2 by omega) with rfl | rfl | rfl <;> assumption⟩ (Nat.le_of_ble_eq_true rfl) (Nat.le_of_ble_eq_true rfl) dX4_fewestMoves_58 hlocks)
                  · skip
                    omega
                · skip
                  have c42 := zB_0 c42
                  have hn3 : ¬ mRch 3 (yV n S Z) x := fun q => c42 ((mRch_eq 3 (heq3.V Z) hIv0.m).mpr (by rw [hxt]; exact q))
                  refine z_iinc (k := 0) (lv' := [(4, .int (iZ ((((0 + 1) + 1) + 1) + 1))), (3, .ref (am 5 ((S 8 x.toNat 7).toNat))), (2, .ref (am 8 x.toNat)), (0, .ref (am 0 0)), (1, .int (iZ x))]) hx hb dX4_fewestMoves_34 hl rfl (by decide) rfl (fun ls hl => ?_)
                  refine lv_goto (tgt := 14) hx hb dX4_fewestMoves_37 (by decide) ?_
                  refine lv_iload hx hb dX4_fewestMoves_14 (lv_at hl 0 rfl) ?_
                  refine z_iconst hx hb dX4_fewestMoves_16 ?_
                  refine z_icmp_gt (tgt := 40) hx hb dX4_fewestMoves_17 (by decide) (by omega) (by omega) (fun c44 => ?_) (fun c44 => ?_)
                  · skip
                    omega
                  · skip
                    have hIvk := hIv0.eq heq4
                    have hhk := (heq4.1 8 x.toNat 7 (by decide)).trans hh0
                    refine lv_aload_n hx hb dX4_fewestMoves_20 rfl (lv_at hl 3 rfl) ?_
                    refine zg_r (κ := 0) (i := 0) (k := 0) (t := 1) (j := 0) hx hb LX4 hown hK hI hW.1.1 rfl rfl (by decide) rfl f10 (fun _ h9 => h9) dX4_fewestMoves_21 hW.2.1.1 (fun v45 => ?_)
                    refine lv_aload_n hx hb dX4_fewestMoves_24 rfl (lv_at hl 1 rfl) ?_
                    refine lv_aload_n hx hb dX4_fewestMoves_25 rfl (lv_at hl 2 rfl) ?_
                    refine lv_iload hx hb dX4_fewestMoves_26 (lv_at hl 0 rfl) ?_
                    refine zc_i (zrS (As := [.ref (am 1 0), .ref (am 5 ((S 8 x.toNat 7).toNat)), .ref (am 8 x.toNat), .int (iZ ((((0 + 1) + 1) + 1) + 1))]) (rest := []) ⟨hx, hb, hml, hown, hts⟩ (c_X4_isReachedWithin_4 l D cA n am S41 H.size ((S 8 x.toNat 7).toNat) x.toNat ((((0 + 1) + 1) + 1) + 1) Z hW v8 v2 hIvk hhk (by omega)) (va_cwS 4 hts gX4_fewestMoves_X4_isReachedWithin rfl rfl rfl (by decide +kernel) ⟨Nat.le_of_ble_eq_true rfl, Nat.le_of_ble_eq_true rfl⟩) hK hI rfl hl.1 rfl (Nat.le_of_ble_eq_true rfl) dX4_fewestMoves_28 ⟨Nat.le_of_ble_eq_true rfl, Nat.le_of_ble_eq_true rfl⟩) hI (fun z46 u9 H locs hz47 hp48 hI hfr => ?_)
                    clear hfr
                    obtain ⟨S49, rfl, hS49, rfl⟩ := hp48
                    have hW : cW n S49 := hS49.W hW
                    have heq5 := heq4.trans hS49
                    refine z_if_ne (tgt := 40) hx hb dX4_fewestMoves_31 (by decide) (by omega) (fun c50 => ?_) (fun c50 => ?_)
                    · skip
                      have c50 := zB_1 c50
                      refine lv_iload hx hb dX4_fewestMoves_40 (lv_at hl 0 rfl) ?_
                      refine z_iconst hx hb dX4_fewestMoves_42 ?_
                      refine z_icmp_le (tgt := 56) hx hb dX4_fewestMoves_43 (by decide) (by omega) (by omega) (fun c51 => ?_) (fun c51 => ?_)
                      · skip
                        refine lv_iload hx hb dX4_fewestMoves_56 (lv_at hl 0 rfl) ?_
                        exact vx_ret (ze_i (u' := (n, am, S49)) (z := ((((0 + 1) + 1) + 1) + 1)) hx hb hr rfl hI (by omega) ⟨⟨by omega, by omega⟩, S49, 4, rfl, heq5, by decide, rfl, (by have q := (mRch_eq 4 (heq4.V Z) hIv0.m).mp c50; rw [hxt] at q; exact q), fun q hq => by rcases (show q = 0 ∨ q = 1 ∨ q = 2 ∨ q = 3 by omega) with rfl | rfl | rfl | rfl <;> assumption⟩ (Nat.le_of_ble_eq_true rfl) (Nat.le_of_ble_eq_true rfl) dX4_fewestMoves_58 hlocks)
                      · skip
                        omega
                    · skip
                      have c50 := zB_0 c50
                      have hn4 : ¬ mRch 4 (yV n S Z) x := fun q => c50 ((mRch_eq 4 (heq4.V Z) hIv0.m).mpr (by rw [hxt]; exact q))
                      refine z_iinc (k := 0) (lv' := [(4, .int (iZ (((((0 + 1) + 1) + 1) + 1) + 1))), (3, .ref (am 5 ((S 8 x.toNat 7).toNat))), (2, .ref (am 8 x.toNat)), (0, .ref (am 0 0)), (1, .int (iZ x))]) hx hb dX4_fewestMoves_34 hl rfl (by decide) rfl (fun ls hl => ?_)
                      refine lv_goto (tgt := 14) hx hb dX4_fewestMoves_37 (by decide) ?_
                      refine lv_iload hx hb dX4_fewestMoves_14 (lv_at hl 0 rfl) ?_
                      refine z_iconst hx hb dX4_fewestMoves_16 ?_
                      refine z_icmp_gt (tgt := 40) hx hb dX4_fewestMoves_17 (by decide) (by omega) (by omega) (fun c52 => ?_) (fun c52 => ?_)
                      · skip
                        refine lv_iload hx hb dX4_fewestMoves_40 (lv_at hl 0 rfl) ?_
                        refine z_iconst hx hb dX4_fewestMoves_42 ?_
                        refine z_icmp_le (tgt := 56) hx hb dX4_fewestMoves_43 (by decide) (by omega) (by omega) (fun c53 => ?_) (fun c53 => ?_)
                        · skip
                          omega
                        · skip
                          exact zx_throwE (text := "the trailer cannot be reached with at most 4 moves") hx hb hfl hown hG hI xC_UOE xF_UOE (hts _ (by decide +kernel)) (hts _ (by decide +kernel)) (fun w h => hts w (List.mem_cons_of_mem _ (List.mem_append_left _ (List.mem_append_left _ (List.mem_append_right _ h))))) xA_UOE xO_UOE (by decide +kernel) (by rw [hml]; exact hl.1) dX4_fewestMoves_46 dX4_fewestMoves_49 dX4_fewestMoves_50 dX4_fewestMoves_52 dX4_fewestMoves_55 hex (Nat.le_of_ble_eq_true rfl) (Nat.le_of_ble_eq_true rfl) (Nat.le_of_ble_eq_true rfl) (Nat.le_of_ble_eq_true rfl) hlocks (Or.inr (Or.inr (⟨rfl, ⟨by omega, by omega⟩, ⟨S49, rfl, heq5⟩, fun q hq => by rcases (show q = 0 ∨ q = 1 ∨ q = 2 ∨ q = 3 ∨ q = 4 by omega) with rfl | rfl | rfl | rfl | rfl <;> assumption⟩))) (Nat.le_of_ble_eq_true rfl) (Nat.le_of_ble_eq_true rfl)
                      · skip
                        omega
set_option maxHeartbeats 4000000 in
set_option maxRecDepth 100000 in
theorem c_X4_fewestByOrders (l : Launch) (hfl : l.stackTraces = false) (D : va_G) (cA : Nat → ClassId) (n : Nat → Nat) (am : ts_Am) (S : ts_St) (sz : Nat) (x : Int) (Z : ts_St) (hW : cW n S) (hx0 : iR x) (hcr : cR n S) (hJ : cJ n S) (hZ : ∀ x : Nat, 0 ≤ Z 15 0 x ∧ Z 15 0 x ≤ 3) : vx_Met l yX4_fewestByOrders wsX4_fewestByOrders ({ frames := 7, cells := 3, slots := 18, locals := 175 } : Room) (va_Pc [.ref (am 0 0), .int (iZ x)] (zPX TX D cA (n, am, S) sz)) (zQi TX D cA (n, am, S) sz (fun z u => ((0 ≤ x ∧ x < (n 8 : Int)) ∧ 0 ≤ S 8 x.toNat 7) ∧ ∃ (S9 : ts_St) (d : Nat), u = (n, am, S9) ∧ cEq n S S9 ∧ d ≤ 4 ∧ z = (d : Int) ∧ mRch d (yV n S Z) x ∧ ∀ q : Nat, q < d → ¬ mRch q (yV n S Z) x)) (zXE TX D cA (n, am, S) sz (fun E u => (E = xN_NSE ∧ ¬ (0 ≤ x ∧ x < (n 8 : Int)) ∧ u = (n, am, S)) ∨ (E = xN_ISE ∧ (0 ≤ x ∧ x < (n 8 : Int)) ∧ S 8 x.toNat 7 < 0 ∧ u = (n, am, S)) ∨ (E = xN_UOE ∧ ((0 ≤ x ∧ x < (n 8 : Int)) ∧ 0 ≤ S 8 x.toNat 7) ∧ (∃ S9 : ts_St, u = (n, am, S9) ∧ cEq n S S9) ∧ ∀ q : Nat, q ≤ 4 → ¬ mRch q (yV n S Z) x))) 3 18 (ts_A (n, am, S) sz) := by
  refine zMx_of (by decide) rfl (Nat.le_of_ble_eq_true rfl) ?_
  intro p e s m below meth c hx hb hr hts hown hlocks hml hex hK hG hsz H locs hI ls hl
  subst hsz
  have hown : s.vm.findClass RX4 = some m.cls := hown
  have hl : lv_has ls 5 [(0, .ref (am 0 0)), (1, .int (iZ x))] := hl
  have f10 := hts (.fieldLink RX4 10 "DockyardSlots" "lanes" "LDockyardSlots$LaneRow;") (by decide +kernel)
  have LX4 : ∀ w ∈ wsX40, w.before [.ref (am 0 0), .int (iZ x)].toArray s = true := fun w h => hts w (List.mem_cons_of_mem _ (List.mem_append_left _ (List.mem_append_left _ (List.mem_append_left _ (List.mem_append_left _ (List.mem_append_left _ (List.mem_append_left _ (List.mem_append_right _ h))))))))
  have hcn := hW.cn
  have hlim := hW.lim
  refine lv_aload_n hx hb dX4_fewestByOrders_0 rfl (lv_at hl 0 rfl) ?_
  refine lv_iload_n hx hb dX4_fewestByOrders_1 rfl (lv_at hl 1 rfl) ?_
  refine zxcE_q (zxV (As := [.int (iZ x)]) (rest := []) (κ := 0) (i := 0) ⟨hx, hb, hml, hown, hts⟩ (c_X4_appointmentOrThrow l hfl D cA n am S H.size x hW (by omega)) (cwV 1 hts gX4_fewestByOrders_X4_appointmentOrThrow rfl rfl rfl (by decide +kernel) ⟨Nat.le_of_ble_eq_true rfl, Nat.le_of_ble_eq_true rfl⟩) hK hI hG hW.1.1 rfl rfl rfl hl.1 rfl (Nat.le_of_ble_eq_true rfl) dX4_fewestByOrders_2 ⟨Nat.le_of_ble_eq_true rfl, Nat.le_of_ble_eq_true rfl⟩) hI hex hlocks (fun E q => Or.inl ⟨q.1, q.2, rfl⟩) (Nat.le_of_ble_eq_true rfl) (Nat.le_of_ble_eq_true rfl) (fun z u q => q.1.1) (fun j1 u9 H locs v2 hp3 hI => ?_)
  obtain ⟨⟨q4, q5, q6⟩, rfl⟩ := hp3
  obtain rfl : j1 = x.toNat := by omega
  have v2 : x.toNat < n 8 := v2
  refine lv_astore_n (lv' := [(2, .ref (am 8 x.toNat)), (0, .ref (am 0 0)), (1, .int (iZ x))]) hx hb dX4_fewestByOrders_5 rfl hl (by decide) rfl (fun ls hl => ?_)
  refine lv_aload_n hx hb dX4_fewestByOrders_6 rfl (lv_at hl 0 rfl) ?_
  refine zxcE_q (zxS (As := [.ref (am 8 x.toNat)]) (rest := []) ⟨hx, hb, hml, hown, hts⟩ (c_X4_homeOrThrow l hfl D cA n am S H.size x.toNat hW v2) (va_cwS 1 hts gX4_fewestByOrders_X4_homeOrThrow rfl rfl rfl (by decide +kernel) ⟨Nat.le_of_ble_eq_true rfl, Nat.le_of_ble_eq_true rfl⟩) hK hI hG rfl hl.1 rfl (Nat.le_of_ble_eq_true rfl) dX4_fewestByOrders_7 ⟨Nat.le_of_ble_eq_true rfl, Nat.le_of_ble_eq_true rfl⟩) hI hex hlocks (fun E q => Or.inr (Or.inl ⟨q.1, by omega, q.2, rfl⟩)) (Nat.le_of_ble_eq_true rfl) (Nat.le_of_ble_eq_true rfl) (fun z u q => q.1.1) (fun j7 u9 H locs v8 hp9 hI => ?_)
  obtain ⟨⟨q10, q11⟩, rfl⟩ := hp9
  obtain rfl : j7 = (S 8 x.toNat 7).toNat := by omega
  have v8 : (S 8 x.toNat 7).toNat < n 5 := v8
  refine lv_astore_n (lv' := [(3, .ref (am 5 ((S 8 x.toNat 7).toNat))), (2, .ref (am 8 x.toNat)), (0, .ref (am 0 0)), (1, .int (iZ x))]) hx hb dX4_fewestByOrders_10 rfl hl (by decide) rfl (fun ls hl => ?_)
  have hxt : ((x.toNat : Nat) : Int) = x := by omega
  have hIv0 : cIv n S Z x.toNat := ⟨hW, hcr, hJ, hZ, by omega, by omega⟩
  have hh0 : S 8 x.toNat 7 = (((S 8 x.toNat 7).toNat : Nat) : Int) := by omega
  have heq0 := cEq.rfl' n S
  refine lv_aload_n hx hb dX4_fewestByOrders_11 rfl (lv_at hl 2 rfl) ?_
  refine zg_r (κ := 0) (i := 0) (k := 0) (t := 1) (j := 0) hx hb LX4 hown hK hI hW.1.1 rfl rfl (by decide) rfl f10 (fun _ h9 => h9) dX4_fewestByOrders_12 hW.2.1.1 (fun v12 => ?_)
  refine lv_aload_n hx hb dX4_fewestByOrders_15 rfl (lv_at hl 0 rfl) ?_
  refine lv_aload_n hx hb dX4_fewestByOrders_16 rfl (lv_at hl 1 rfl) ?_
  refine z_iconst hx hb dX4_fewestByOrders_17 ?_
  refine z_iconst hx hb dX4_fewestByOrders_18 ?_
  refine zc_i (zrS (As := [.ref (am 1 0), .ref (am 5 ((S 8 x.toNat 7).toNat)), .ref (am 8 x.toNat), .int (iZ 0), .int (iZ 5)]) (rest := []) ⟨hx, hb, hml, hown, hts⟩ (c_X4_bestOfOrders_0 l D cA n am S H.size ((S 8 x.toNat 7).toNat) x.toNat 0 5 Z hW v8 v2 hIv0 hh0 (by omega) (by omega)) (va_cwS 5 hts gX4_fewestByOrders_X4_bestOfOrders rfl rfl rfl (by decide +kernel) ⟨Nat.le_of_ble_eq_true rfl, Nat.le_of_ble_eq_true rfl⟩) hK hI rfl hl.1 rfl (Nat.le_of_ble_eq_true rfl) dX4_fewestByOrders_19 ⟨Nat.le_of_ble_eq_true rfl, Nat.le_of_ble_eq_true rfl⟩) hI (fun z13 u9 H locs hz14 hp15 hI hfr => ?_)
  clear hfr
  obtain ⟨S16, rfl, hS16, hb17⟩ := hp15
  have hW : cW n S16 := hS16.W hW
  refine lv_istore (lv' := [(4, .int (iZ z13)), (3, .ref (am 5 ((S 8 x.toNat 7).toNat))), (2, .ref (am 8 x.toNat)), (0, .ref (am 0 0)), (1, .int (iZ x))]) hx hb dX4_fewestByOrders_22 hl (by decide) rfl (fun ls hl => ?_)
  have hbr := hb17.1
  refine lv_iload hx hb dX4_fewestByOrders_24 (lv_at hl 0 rfl) ?_
  refine z_iconst hx hb dX4_fewestByOrders_26 ?_
  refine z_icmp_le (tgt := 40) hx hb dX4_fewestByOrders_27 (by decide) (by omega) (by omega) (fun c18 => ?_) (fun c18 => ?_)
  · skip
    refine lv_iload hx hb dX4_fewestByOrders_40 (lv_at hl 0 rfl) ?_
    exact vx_ret (ze_i (u' := (n, am, S16)) (z := z13) hx hb hr rfl hI (by omega) (by obtain ⟨d, hd, hd2⟩ := hb17.2.2.1 (by omega); rw [hxt] at hd2; exact ⟨⟨by omega, by omega⟩, S16, d, rfl, hS16, by omega, by omega, hd2, fun q hq hq2 => by have := hb17.2.2.2 q (by omega) (by rw [hxt]; exact hq2); omega⟩) (Nat.le_of_ble_eq_true rfl) (Nat.le_of_ble_eq_true rfl) dX4_fewestByOrders_42 hlocks)
  · skip
    exact zx_throwE (text := "the trailer cannot be reached with at most 4 moves") hx hb hfl hown hG hI xC_UOE xF_UOE (hts _ (by decide +kernel)) (hts _ (by decide +kernel)) (fun w h => hts w (List.mem_cons_of_mem _ (List.mem_append_left _ (List.mem_append_left _ (List.mem_append_right _ h))))) xA_UOE xO_UOE (by decide +kernel) (by rw [hml]; exact hl.1) dX4_fewestByOrders_30 dX4_fewestByOrders_33 dX4_fewestByOrders_34 dX4_fewestByOrders_36 dX4_fewestByOrders_39 hex (Nat.le_of_ble_eq_true rfl) (Nat.le_of_ble_eq_true rfl) (Nat.le_of_ble_eq_true rfl) (Nat.le_of_ble_eq_true rfl) hlocks (Or.inr (Or.inr (⟨rfl, ⟨by omega, by omega⟩, ⟨S16, rfl, hS16⟩, fun q hq hq2 => by have := hb17.2.2.2 q (by omega) (by rw [hxt]; exact hq2); omega⟩))) (Nat.le_of_ble_eq_true rfl) (Nat.le_of_ble_eq_true rfl)
/-! New lanes, doors, appointments. -/
def zf (κ k : Nat) : Int := if (κ = 0 ∧ (k = 0 ∨ k = 1 ∨ k = 3)) ∨ (κ = 1 ∧ k = 0) ∨ (κ = 5 ∧ k = 3) ∨ (κ = 8 ∧ (k = 7 ∨ k = 9)) then -1 else 0
theorem zf_bd (κ : Nat) : ∀ k, ts_bd (zf κ k) := by
  intro k
  unfold zf
  split <;> (constructor <;> decide)
theorem up2_r3 {S : ts_St} {κ i a b c : Nat} {f : Nat → Int} (h : ¬ a = κ) : up2 S κ i f a b c = S a b c := by
  rw [up2_r (fun q => h q.1)]
theorem zf_0 : ∀ (am' : ts_Am) (j : Nat), j < 13 → defaultValue (tyX4 j) = vp_V (ts_L am' (zf 0) 0 [3, 5, 0, 6, 0, 0, 0, 0, 0, 0, 0, 0, 1]) j := fun am' j hj => match j, hj with
  | 0, _ => rfl
  | 1, _ => rfl
  | 2, _ => rfl
  | 3, _ => rfl
  | 4, _ => rfl
  | 5, _ => rfl
  | 6, _ => rfl
  | 7, _ => rfl
  | 8, _ => rfl
  | 9, _ => rfl
  | 10, _ => rfl
  | 11, _ => rfl
  | 12, _ => rfl
theorem zf_r0 (n : Nat → Nat) : ∀ k t : Nat, ts_ty TX 0 k = some (t + 2) → -1 ≤ zf 0 k ∧ zf 0 k < (n t : Int) := by
  intro k t q
  match k, q with
  | 0, q => exact ⟨(show (-1 : Int) ≤ -1 by decide), (show (-1 : Int) < (n t : Int) by omega)⟩
  | 1, q => exact ⟨(show (-1 : Int) ≤ -1 by decide), (show (-1 : Int) < (n t : Int) by omega)⟩
  | 2, q => exact absurd (Option.some.inj (show some 0 = some (t + 2) from q)) (by omega)
  | 3, q => exact ⟨(show (-1 : Int) ≤ -1 by decide), (show (-1 : Int) < (n t : Int) by omega)⟩
  | 4, q => exact absurd (Option.some.inj (show some 0 = some (t + 2) from q)) (by omega)
  | 5, q => exact absurd (Option.some.inj (show some 0 = some (t + 2) from q)) (by omega)
  | 6, q => exact absurd (Option.some.inj (show some 0 = some (t + 2) from q)) (by omega)
  | 7, q => exact absurd (Option.some.inj (show some 0 = some (t + 2) from q)) (by omega)
  | 8, q => exact absurd (Option.some.inj (show some 0 = some (t + 2) from q)) (by omega)
  | 9, q => exact absurd (Option.some.inj (show some 0 = some (t + 2) from q)) (by omega)
  | 10, q => exact absurd (Option.some.inj (show some 0 = some (t + 2) from q)) (by omega)
  | 11, q => exact absurd (Option.some.inj (show some 0 = some (t + 2) from q)) (by omega)
  | 12, q => exact absurd (Option.some.inj (show some 1 = some (t + 2) from q)) (by omega)
  | j + 13, q => cases (show (none : Option Nat) = some (t + 2) from q)
theorem zf_1 : ∀ (am' : ts_Am) (j : Nat), j < 2 → defaultValue (tyX3 j) = vp_V (ts_L am' (zf 1) 0 [4, 0]) j := fun am' j hj => match j, hj with
  | 0, _ => rfl
  | 1, _ => rfl
theorem zf_r1 (n : Nat → Nat) : ∀ k t : Nat, ts_ty TX 1 k = some (t + 2) → -1 ≤ zf 1 k ∧ zf 1 k < (n t : Int) := by
  intro k t q
  match k, q with
  | 0, q => exact ⟨(show (-1 : Int) ≤ -1 by decide), (show (-1 : Int) < (n t : Int) by omega)⟩
  | 1, q => exact absurd (Option.some.inj (show some 0 = some (t + 2) from q)) (by omega)
  | j + 2, q => cases (show (none : Option Nat) = some (t + 2) from q)
theorem zf_5 : ∀ (am' : ts_Am) (j : Nat), j < 5 → defaultValue (tyX2 j) = vp_V (ts_L am' (zf 5) 0 [0, 0, 0, 8, 0]) j := fun am' j hj => match j, hj with
  | 0, _ => rfl
  | 1, _ => rfl
  | 2, _ => rfl
  | 3, _ => rfl
  | 4, _ => rfl
theorem zf_r5 (n : Nat → Nat) : ∀ k t : Nat, ts_ty TX 5 k = some (t + 2) → -1 ≤ zf 5 k ∧ zf 5 k < (n t : Int) := by
  intro k t q
  match k, q with
  | 0, q => exact absurd (Option.some.inj (show some 0 = some (t + 2) from q)) (by omega)
  | 1, q => exact absurd (Option.some.inj (show some 0 = some (t + 2) from q)) (by omega)
  | 2, q => exact absurd (Option.some.inj (show some 0 = some (t + 2) from q)) (by omega)
  | 3, q => exact ⟨(show (-1 : Int) ≤ -1 by decide), (show (-1 : Int) < (n t : Int) by omega)⟩
  | 4, q => exact absurd (Option.some.inj (show some 0 = some (t + 2) from q)) (by omega)
  | j + 5, q => cases (show (none : Option Nat) = some (t + 2) from q)
theorem zf_7 : ∀ (am' : ts_Am) (j : Nat), j < 2 → defaultValue (tyX1 j) = vp_V (ts_L am' (zf 7) 0 [0, 0]) j := fun am' j hj => match j, hj with
  | 0, _ => rfl
  | 1, _ => rfl
theorem zf_r7 (n : Nat → Nat) : ∀ k t : Nat, ts_ty TX 7 k = some (t + 2) → -1 ≤ zf 7 k ∧ zf 7 k < (n t : Int) := by
  intro k t q
  match k, q with
  | 0, q => exact absurd (Option.some.inj (show some 0 = some (t + 2) from q)) (by omega)
  | 1, q => exact absurd (Option.some.inj (show some 0 = some (t + 2) from q)) (by omega)
  | j + 2, q => cases (show (none : Option Nat) = some (t + 2) from q)
theorem zf_8 : ∀ (am' : ts_Am) (j : Nat), j < 10 → defaultValue (tyX0 j) = vp_V (ts_L am' (zf 8) 0 [0, 0, 0, 0, 0, 0, 0, 7, 0, 9]) j := fun am' j hj => match j, hj with
  | 0, _ => rfl
  | 1, _ => rfl
  | 2, _ => rfl
  | 3, _ => rfl
  | 4, _ => rfl
  | 5, _ => rfl
  | 6, _ => rfl
  | 7, _ => rfl
  | 8, _ => rfl
  | 9, _ => rfl
theorem zf_r8 (n : Nat → Nat) : ∀ k t : Nat, ts_ty TX 8 k = some (t + 2) → -1 ≤ zf 8 k ∧ zf 8 k < (n t : Int) := by
  intro k t q
  match k, q with
  | 0, q => exact absurd (Option.some.inj (show some 0 = some (t + 2) from q)) (by omega)
  | 1, q => exact absurd (Option.some.inj (show some 0 = some (t + 2) from q)) (by omega)
  | 2, q => exact absurd (Option.some.inj (show some 0 = some (t + 2) from q)) (by omega)
  | 3, q => exact absurd (Option.some.inj (show some 0 = some (t + 2) from q)) (by omega)
  | 4, q => exact absurd (Option.some.inj (show some 0 = some (t + 2) from q)) (by omega)
  | 5, q => exact absurd (Option.some.inj (show some 0 = some (t + 2) from q)) (by omega)
  | 6, q => exact absurd (Option.some.inj (show some 0 = some (t + 2) from q)) (by omega)
  | 7, q => exact ⟨(show (-1 : Int) ≤ -1 by decide), (show (-1 : Int) < (n t : Int) by omega)⟩
  | 8, q => exact absurd (Option.some.inj (show some 0 = some (t + 2) from q)) (by omega)
  | 9, q => exact ⟨(show (-1 : Int) ≤ -1 by decide), (show (-1 : Int) < (n t : Int) by omega)⟩
  | j + 10, q => cases (show (none : Option Nat) = some (t + 2) from q)
def yLaneNew (n : Nat → Nat) (S : ts_St) (i : Nat) (x a b : Int) : ts_St := up3 (up2 (up3 (up3 (up3 S 5 i 0 x) 5 i 1 a) 5 i 2 b) 6 (n 6) (fun _ => -1)) 5 i 3 (n 6 : Int)
theorem yLaneNew_n {n : Nat → Nat} {S : ts_St} {i : Nat} {x a b : Int} {κ j k : Nat} (h : ¬ (κ = 5 ∨ κ = 6)) : yLaneNew n S i x a b κ j k = S κ j k := by
  unfold yLaneNew
  rw [up3_n (by omega), up2_r3 (by omega), up3_n (by omega), up3_n (by omega), up3_n (by omega)]
def yAddL (n : Nat → Nat) (S : ts_St) (a b : Int) : ts_St := up3 (up3 (yLaneNew (upN n 5 (n 5 + 1)) (up2 S 5 (n 5) (zf 5)) (n 5) (n 5 : Int) a b) 2 0 (n 5) (n 5 : Int)) 1 0 1 ((n 5 : Int) + 1)
def yAddD (n : Nat → Nat) (S : ts_St) (a : Int) : ts_St := up3 (up3 (up3 (up2 S 7 (n 7) (zf 7)) 7 (n 7) 0 a) 3 0 (n 7) (n 7 : Int)) 0 0 2 ((n 7 : Int) + 1)
def yAppNew (S : ts_St) (i : Nat) (x a b d : Int) : ts_St := up3 (up3 (up3 (up3 (up3 S 8 i 0 x) 8 i 1 a) 8 i 2 b) 8 i 3 d) 8 i 4 98
def yBookA (n : Nat → Nat) (S : ts_St) (a b d : Int) : ts_St := up3 (up3 (yAppNew (up2 S 8 (n 8) (zf 8)) (n 8) (n 8 : Int) a b d) 4 0 (n 8) (n 8 : Int)) 0 0 4 ((n 8 : Int) + 1)
/-- addresses of what was there stay -/
def amK (n : Nat → Nat) (am am' : ts_Am) : Prop := ∀ a b : Nat, b < n a → am' a b = am a b
theorem amK.rfl' (n : Nat → Nat) (am : ts_Am) : amK n am am := fun _ _ _ => rfl
theorem amK.new {n : Nat → Nat} {am am' : ts_Am} {κ : Nat} (h : ∀ a b : Nat, ¬ (a = κ ∧ b = n κ) → am' a b = am a b) : amK n am am' := fun a b q => h a b (by
  rintro ⟨rfl, rfl⟩
  exact absurd q (Nat.lt_irrefl _))
theorem amK.up {n : Nat → Nat} {am am' am'' : ts_Am} {κ v : Nat} (h : amK n am am') (hv : n κ ≤ v) (h2 : amK (upN n κ v) am' am'') : amK n am am'' := fun a b q => (h2 a b (by
  by_cases z : a = κ
  · subst z
    rw [upN_s]
    omega
  · rw [upN_r z]
    exact q)).trans (h a b q)
set_option maxHeartbeats 4000000 in
set_option maxRecDepth 100000 in
theorem c_X1_init (l : Launch) (D : va_G) (cA : Nat → ClassId) (n : Nat → Nat) (am : ts_Am) (S : ts_St) (sz : Nat) (i : Nat) (a : Int) (hi : i < n 7) (ha : 0 ≤ a ∧ a < 65536) : Met l yX1_init wsX1_init ({ frames := 1, cells := 0, slots := 0, locals := 24 } : Room) (va_Pc [.ref (am 7 i), .int (iZ a)] (zP TX D cA (n, am, S) sz)) (zQv TX D cA (n, am, S) sz (fun u => u = (n, am, up3 S 7 i 0 a))) 0 0 (ts_A (n, am, S) sz) := by
  refine zM_of (by decide) rfl (Nat.le_of_ble_eq_true rfl) ?_
  intro p e s m below meth c hx hb hr hts hown hlocks hml hname hK hsz H locs hI ls hl
  subst hsz
  have hown : s.vm.findClass RX1 = some m.cls := hown
  have hl : lv_has ls 2 [(0, .ref (am 7 i)), (1, .int (iZ a))] := hl
  have f9 := hts (.fieldLink RX1 9 "DockyardSlots$Door" "kind" "C") (by decide +kernel)
  have LX1 : ∀ w ∈ wsX10, w.before [.ref (am 7 i), .int (iZ a)].toArray s = true := fun w h => hts w (List.mem_cons_of_mem _ (List.mem_append_right _ h))
  refine lv_aload_n hx hb dX1_init_0 rfl (lv_at hl 0 rfl) ?_
  refine W.objInit hx hb hown (hts (.methodLink RX1 3 objectInit) (by decide +kernel)) (hts (.instanceMethod objectInit) (by decide +kernel)) (hts (.code objectInit ⟨#[0xb1]⟩ 1 none) (by decide +kernel)) rfl (by rw [hml]; exact hl.1) rfl dX1_init_1 (Nat.le_of_ble_eq_true rfl) (Nat.le_of_ble_eq_true rfl) ?_
  refine W.eq (g2 := F0 m 4 ls []) rfl ?_
  refine lv_aload_n hx hb dX1_init_4 rfl (lv_at hl 0 rfl) ?_
  refine lv_iload_n hx hb dX1_init_5 rfl (lv_at hl 1 rfl) ?_
  refine zpF_i (κ := 7) (i := i) (k := 0) hx hb LX1 tyX1 tyX1_ok nmX1 hown hK hI hi rfl rfl (by decide) rfl f9 (fun _ h9 => h9) rfl hname rfl (iZ_narc (by omega) (by omega)).1 (iZ_narc (by omega) (by omega)).2 (by omega) dX1_init_6 (fun H locs hI => ?_)
  obtain ⟨S1, eS1⟩ : ∃ z, z = up3 S 7 i 0 a := ⟨_, rfl⟩
  rw [← eS1] at hI
  exact (ze_v (u' := (n, am, S1)) hx hb hr hI (by rw [eS1]) (Nat.le_of_ble_eq_true rfl) (Nat.le_of_ble_eq_true rfl) dX1_init_9 hlocks)
set_option maxHeartbeats 4000000 in
set_option maxRecDepth 100000 in
theorem c_X0_init (l : Launch) (D : va_G) (cA : Nat → ClassId) (n : Nat → Nat) (am : ts_Am) (S : ts_St) (sz : Nat) (i : Nat) (x a b d : Int) (hi : i < n 8) (hx0 : 0 ≤ x ∧ x ≤ 1000) (ha : 0 ≤ a ∧ a ≤ 999) (hb1 : 0 ≤ b ∧ b < 65536) (hd : 1 ≤ d ∧ d ≤ 9) : Met l yX0_init wsX0_init ({ frames := 1, cells := 0, slots := 0, locals := 24 } : Room) (va_Pc [.ref (am 8 i), .int (iZ x), .int (iZ a), .int (iZ b), .int (iZ d)] (zP TX D cA (n, am, S) sz)) (zQv TX D cA (n, am, S) sz (fun u => u = (n, am, yAppNew S i x a b d))) 0 0 (ts_A (n, am, S) sz) := by
  refine zM_of (by decide) rfl (Nat.le_of_ble_eq_true rfl) ?_
  intro p e s m below meth c hx hb hr hts hown hlocks hml hname hK hsz H locs hI ls hl
  subst hsz
  have hown : s.vm.findClass RX0 = some m.cls := hown
  have hl : lv_has ls 5 [(0, .ref (am 8 i)), (1, .int (iZ x)), (2, .int (iZ a)), (3, .int (iZ b)), (4, .int (iZ d))] := hl
  have f15 := hts (.fieldLink RX0 15 "DockyardSlots$Appointment" "hour" "I") (by decide +kernel)
  have f18 := hts (.fieldLink RX0 18 "DockyardSlots$Appointment" "kind" "C") (by decide +kernel)
  have f22 := hts (.fieldLink RX0 22 "DockyardSlots$Appointment" "work" "I") (by decide +kernel)
  have f25 := hts (.fieldLink RX0 25 "DockyardSlots$Appointment" "state" "C") (by decide +kernel)
  have f9 := hts (.fieldLink RX0 9 "DockyardSlots$Appointment" "number" "I") (by decide +kernel)
  have LX0 : ∀ w ∈ wsX00, w.before [.ref (am 8 i), .int (iZ x), .int (iZ a), .int (iZ b), .int (iZ d)].toArray s = true := fun w h => hts w (List.mem_cons_of_mem _ (List.mem_append_right _ h))
  refine lv_aload_n hx hb dX0_init_0 rfl (lv_at hl 0 rfl) ?_
  refine W.objInit hx hb hown (hts (.methodLink RX0 3 objectInit) (by decide +kernel)) (hts (.instanceMethod objectInit) (by decide +kernel)) (hts (.code objectInit ⟨#[0xb1]⟩ 1 none) (by decide +kernel)) rfl (by rw [hml]; exact hl.1) rfl dX0_init_1 (Nat.le_of_ble_eq_true rfl) (Nat.le_of_ble_eq_true rfl) ?_
  refine W.eq (g2 := F0 m 4 ls []) rfl ?_
  refine lv_aload_n hx hb dX0_init_4 rfl (lv_at hl 0 rfl) ?_
  refine lv_iload_n hx hb dX0_init_5 rfl (lv_at hl 1 rfl) ?_
  refine zpF_i (κ := 8) (i := i) (k := 0) hx hb LX0 tyX0 tyX0_ok nmX0 hown hK hI hi rfl rfl (by decide) rfl f9 (fun _ h9 => h9) rfl hname rfl rfl rfl (by omega) dX0_init_6 (fun H locs hI => ?_)
  obtain ⟨S1, eS1⟩ : ∃ z, z = up3 S 8 i 0 x := ⟨_, rfl⟩
  rw [← eS1] at hI
  refine lv_aload_n hx hb dX0_init_9 rfl (lv_at hl 0 rfl) ?_
  refine lv_iload_n hx hb dX0_init_10 rfl (lv_at hl 2 rfl) ?_
  refine zpF_i (κ := 8) (i := i) (k := 1) hx hb LX0 tyX0 tyX0_ok nmX0 hown hK hI hi rfl rfl (by decide) rfl f15 (fun _ h9 => h9) rfl hname rfl rfl rfl (by omega) dX0_init_11 (fun H locs hI => ?_)
  obtain ⟨S2, eS2⟩ : ∃ z, z = up3 S1 8 i 1 a := ⟨_, rfl⟩
  rw [← eS2] at hI
  refine lv_aload_n hx hb dX0_init_14 rfl (lv_at hl 0 rfl) ?_
  refine lv_iload_n hx hb dX0_init_15 rfl (lv_at hl 3 rfl) ?_
  refine zpF_i (κ := 8) (i := i) (k := 2) hx hb LX0 tyX0 tyX0_ok nmX0 hown hK hI hi rfl rfl (by decide) rfl f18 (fun _ h9 => h9) rfl hname rfl (iZ_narc (by omega) (by omega)).1 (iZ_narc (by omega) (by omega)).2 (by omega) dX0_init_16 (fun H locs hI => ?_)
  obtain ⟨S3, eS3⟩ : ∃ z, z = up3 S2 8 i 2 b := ⟨_, rfl⟩
  rw [← eS3] at hI
  refine lv_aload_n hx hb dX0_init_19 rfl (lv_at hl 0 rfl) ?_
  refine lv_iload hx hb dX0_init_20 (lv_at hl 4 rfl) ?_
  refine zpF_i (κ := 8) (i := i) (k := 3) hx hb LX0 tyX0 tyX0_ok nmX0 hown hK hI hi rfl rfl (by decide) rfl f22 (fun _ h9 => h9) rfl hname rfl rfl rfl (by omega) dX0_init_22 (fun H locs hI => ?_)
  obtain ⟨S4, eS4⟩ : ∃ z, z = up3 S3 8 i 3 d := ⟨_, rfl⟩
  rw [← eS4] at hI
  refine lv_aload_n hx hb dX0_init_25 rfl (lv_at hl 0 rfl) ?_
  refine z_bipush hx hb dX0_init_26 (by decide) ?_
  refine zp_i (κ := 8) (i := i) (k := 4) hx hb LX0 tyX0 tyX0_ok nmX0 hown hK hI hi rfl rfl (by decide) rfl f25 (fun _ h9 => h9) rfl (iZ_narc (by omega) (by omega)).1 (iZ_narc (by omega) (by omega)).2 (by omega) dX0_init_28 (fun H locs hI => ?_)
  obtain ⟨S5, eS5⟩ : ∃ z, z = up3 S4 8 i 4 98 := ⟨_, rfl⟩
  rw [← eS5] at hI
  exact (ze_v (u' := (n, am, S5)) hx hb hr hI (by rw [eS5, eS4, eS3, eS2, eS1]; rfl) (Nat.le_of_ble_eq_true rfl) (Nat.le_of_ble_eq_true rfl) dX0_init_31 hlocks)
set_option maxHeartbeats 4000000 in
set_option maxRecDepth 100000 in
theorem c_X2_init (l : Launch) (D : va_G) (cA : Nat → ClassId) (n : Nat → Nat) (am : ts_Am) (S : ts_St) (sz : Nat) (i : Nat) (x a b : Int) (hi : i < n 5) (hx0 : 0 ≤ x ∧ x ≤ 1000) (ha : 1 ≤ a ∧ a ≤ 3) (hb1 : 0 ≤ b ∧ b < 2) (hn6 : n 6 ≤ 1000) : Met l yX2_init wsX2_init ({ frames := 1, cells := 1, slots := 3, locals := 24 } : Room) (va_Pc [.ref (am 5 i), .int (iZ x), .int (iZ a), .int (iZ b)] (zP TX D cA (n, am, S) sz)) (zQv TX D cA (n, am, S) sz (fun u => ∃ am', amK n am am' ∧ u = (upN n 6 (n 6 + 1), am', yLaneNew n S i x a b))) 1 3 (ts_A (n, am, S) sz) := by
  refine zM_of (by decide) rfl (Nat.le_of_ble_eq_true rfl) ?_
  intro p e s m below meth c hx hb hr hts hown hlocks hml hname hK hsz H locs hI ls hl
  subst hsz
  have hown : s.vm.findClass RX2 = some m.cls := hown
  have hl : lv_has ls 4 [(0, .ref (am 5 i)), (1, .int (iZ x)), (2, .int (iZ a)), (3, .int (iZ b))] := hl
  have f15 := hts (.fieldLink RX2 15 "DockyardSlots$Lane" "capacity" "I") (by decide +kernel)
  have f18 := hts (.fieldLink RX2 18 "DockyardSlots$Lane" "hasPower" "Z") (by decide +kernel)
  have f24 := hts (.fieldLink RX2 24 "DockyardSlots$Lane" "trailers" "[LDockyardSlots$Appointment;") (by decide +kernel)
  have f9 := hts (.fieldLink RX2 9 "DockyardSlots$Lane" "number" "I") (by decide +kernel)
  have LX2 : ∀ w ∈ wsX20, w.before [.ref (am 5 i), .int (iZ x), .int (iZ a), .int (iZ b)].toArray s = true := fun w h => hts w (List.mem_cons_of_mem _ (List.mem_append_right _ h))
  refine lv_aload_n hx hb dX2_init_0 rfl (lv_at hl 0 rfl) ?_
  refine W.objInit hx hb hown (hts (.methodLink RX2 3 objectInit) (by decide +kernel)) (hts (.instanceMethod objectInit) (by decide +kernel)) (hts (.code objectInit ⟨#[0xb1]⟩ 1 none) (by decide +kernel)) rfl (by rw [hml]; exact hl.1) rfl dX2_init_1 (Nat.le_of_ble_eq_true rfl) (Nat.le_of_ble_eq_true rfl) ?_
  refine W.eq (g2 := F0 m 4 ls []) rfl ?_
  refine lv_aload_n hx hb dX2_init_4 rfl (lv_at hl 0 rfl) ?_
  refine lv_iload_n hx hb dX2_init_5 rfl (lv_at hl 1 rfl) ?_
  refine zpF_i (κ := 5) (i := i) (k := 0) hx hb LX2 tyX2 tyX2_ok nmX2 hown hK hI hi rfl rfl (by decide) rfl f9 (fun _ h9 => h9) rfl hname rfl rfl rfl (by omega) dX2_init_6 (fun H locs hI => ?_)
  obtain ⟨S1, eS1⟩ : ∃ z, z = up3 S 5 i 0 x := ⟨_, rfl⟩
  rw [← eS1] at hI
  refine lv_aload_n hx hb dX2_init_9 rfl (lv_at hl 0 rfl) ?_
  refine lv_iload_n hx hb dX2_init_10 rfl (lv_at hl 2 rfl) ?_
  refine zpF_i (κ := 5) (i := i) (k := 1) hx hb LX2 tyX2 tyX2_ok nmX2 hown hK hI hi rfl rfl (by decide) rfl f15 (fun _ h9 => h9) rfl hname rfl rfl rfl (by omega) dX2_init_11 (fun H locs hI => ?_)
  obtain ⟨S2, eS2⟩ : ∃ z, z = up3 S1 5 i 1 a := ⟨_, rfl⟩
  rw [← eS2] at hI
  refine lv_aload_n hx hb dX2_init_14 rfl (lv_at hl 0 rfl) ?_
  refine lv_iload_n hx hb dX2_init_15 rfl (lv_at hl 3 rfl) ?_
  refine zpF_i (κ := 5) (i := i) (k := 2) hx hb LX2 tyX2 tyX2_ok nmX2 hown hK hI hi rfl rfl (by decide) rfl f18 (fun _ h9 => h9) rfl hname rfl (iZ_narz (by omega) (by omega)).1 (iZ_narz (by omega) (by omega)).2 (by omega) dX2_init_16 (fun H locs hI => ?_)
  obtain ⟨S3, eS3⟩ : ∃ z, z = up3 S2 5 i 2 b := ⟨_, rfl⟩
  rw [← eS3] at hI
  refine lv_aload_n hx hb dX2_init_19 rfl (lv_at hl 0 rfl) ?_
  refine z_iconst hx hb dX2_init_20 ?_
  refine znq (κ := 6) hx hb hown (hts _ (by decide +kernel)) hK hI rfl rfl (by decide) (Nat.le_of_ble_eq_true rfl) (Nat.le_of_ble_eq_true rfl) dX2_init_21 (fun am4 H hm5 hI => ?_)
  obtain ⟨j8, ej8⟩ : ∃ z, z = n 6 := ⟨_, rfl⟩
  obtain ⟨n6, en6⟩ : ∃ z, z = upN n 6 (n 6 + 1) := ⟨_, rfl⟩
  obtain ⟨S7, eS7⟩ : ∃ z, z = up2 S3 6 (n 6) (fun _ => -1) := ⟨_, rfl⟩
  rw [← en6, ← eS7] at hI
  have v9 : i < n6 5 := by rw [en6, upN_r (by decide)]; exact hi
  have r10 : am4 5 i = am 5 i := hm5 _ _ (by have := hi; omega)
  have v11 : j8 < n6 6 := by rw [en6, upN_s]; omega
  replace hl : lv_has ls 4 [(0, .ref (am4 5 i)), (1, .int (iZ x)), (2, .int (iZ a)), (3, .int (iZ b))] := by simp only [r10]; exact hl
  refine W.eq (g2 := F0 m 24 ls [.ref (am4 6 j8), .ref (am4 5 i)]) (by simp only [ej8, r10]) ?_
  refine zpF_r (κ := 5) (i := i) (k := 3) (t := 6) (j := j8) hx hb LX2 tyX2 tyX2_ok nmX2 hown hK hI v9 rfl rfl (by decide) rfl f24 (fun _ h9 => h9) rfl hname rfl rfl rfl v11 (by constructor <;> omega) dX2_init_24 (fun H locs hI => ?_)
  obtain ⟨S12, eS12⟩ : ∃ z, z = up3 S7 5 i 3 (j8 : Int) := ⟨_, rfl⟩
  rw [← eS12] at hI
  exact (ze_v (u' := (n6, am4, S12)) hx hb hr hI ⟨am4, amK.new hm5, by rw [en6, eS12, eS7, eS3, eS2, eS1, ej8]; rfl⟩ (Nat.le_of_ble_eq_true rfl) (Nat.le_of_ble_eq_true rfl) dX2_init_27 hlocks)
set_option maxHeartbeats 4000000 in
set_option maxRecDepth 100000 in
theorem c_X3_append (l : Launch) (D : va_G) (cA : Nat → ClassId) (n : Nat → Nat) (am : ts_Am) (S : ts_St) (sz : Nat) (a b : Int) (hW : cW n S) (h65 : n 6 = n 5) (h54 : n 5 < 4) (ha : 1 ≤ a ∧ a ≤ 3) (hb1 : 0 ≤ b ∧ b < 2) : Met l yX3_append wsX3_append ({ frames := 2, cells := 2, slots := 8, locals := 47 } : Room) (va_Pc [.ref (am 1 0), .int (iZ a), .int (iZ b)] (zP TX D cA (n, am, S) sz)) (zQi TX D cA (n, am, S) sz (fun z u => z = (n 5 : Int) ∧ ∃ am', amK n am am' ∧ u = (upN (upN n 5 (n 5 + 1)) 6 (n 5 + 1), am', yAddL n S a b))) 2 8 (ts_A (n, am, S) sz) := by
  refine zM_of (by decide) rfl (Nat.le_of_ble_eq_true rfl) ?_
  intro p e s m below meth c hx hb hr hts hown hlocks hml hname hK hsz H locs hI ls hl
  subst hsz
  have hown : s.vm.findClass RX3 = some m.cls := hown
  have hl : lv_has ls 4 [(0, .ref (am 1 0)), (1, .int (iZ a)), (2, .int (iZ b))] := hl
  have f11 := hts (.fieldLink RX3 11 "DockyardSlots$LaneRow" "lanes" "[LDockyardSlots$Lane;") (by decide +kernel)
  have f17 := hts (.fieldLink RX3 17 "DockyardSlots$LaneRow" "count" "I") (by decide +kernel)
  have LX2 : ∀ w ∈ wsX20, w.before [.ref (am 1 0), .int (iZ a), .int (iZ b)].toArray s = true := fun w h => hts w (List.mem_cons_of_mem _ (List.mem_append_right _ h))
  have LX3 : ∀ w ∈ wsX30, w.before [.ref (am 1 0), .int (iZ a), .int (iZ b)].toArray s = true := fun w h => hts w (List.mem_cons_of_mem _ (List.mem_append_left _ (List.mem_append_right _ h)))
  have hlim := hW.lim
  have hcn := hW.cn
  have hcap := hW.2.2.2.1
  have w10 : 0 < n 1 := hW.1.2.1
  have w20 : 0 < n 2 := hW.1.2.2.1
  have h66 := hcap 6
  refine lv_aload_n hx hb dX3_append_0 rfl (lv_at hl 0 rfl) ?_
  refine zg_i (κ := 1) (i := 0) (k := 1) hx hb LX3 hown hK hI w10 rfl rfl (by decide) rfl f17 (fun _ h9 => h9) dX3_append_1 rfl (fun b1 => ?_)
  refine lv_istore_n (lv' := [(3, .int (iZ (S 1 0 1))), (0, .ref (am 1 0)), (1, .int (iZ a)), (2, .int (iZ b))]) hx hb dX3_append_4 rfl hl (by decide) rfl (fun ls hl => ?_)
  refine lv_iload_n hx hb dX3_append_5 rfl (lv_at hl 0 rfl) ?_
  refine z_if_lt (tgt := 44) hx hb dX3_append_6 (by decide) (by omega) (fun c2 => ?_) (fun c2 => ?_)
  · skip
    omega
  · skip
    refine lv_iload_n hx hb dX3_append_9 rfl (lv_at hl 0 rfl) ?_
    refine lv_aload_n hx hb dX3_append_10 rfl (lv_at hl 1 rfl) ?_
    refine zg_r (κ := 1) (i := 0) (k := 0) (t := 2) (j := 0) hx hb LX3 hown hK hI w10 rfl rfl (by decide) rfl f11 (fun _ h9 => h9) dX3_append_11 hW.2.1.2.2.2 (fun v3 => ?_)
    refine zal hx hb hK hI v3 rfl dX3_append_14 ?_
    refine z_icmp_ge (tgt := 44) hx hb dX3_append_15 (by decide) (by omega) (by omega) (fun c4 => ?_) (fun c4 => ?_)
    · skip
      omega
    · skip
      refine lv_aload_n hx hb dX3_append_18 rfl (lv_at hl 1 rfl) ?_
      refine zg_r (κ := 1) (i := 0) (k := 0) (t := 2) (j := 0) hx hb LX3 hown hK hI w10 rfl rfl (by decide) rfl f11 (fun _ h9 => h9) dX3_append_19 hW.2.1.2.2.2 (fun v5 => ?_)
      refine lv_iload_n hx hb dX3_append_22 rfl (lv_at hl 0 rfl) ?_
      refine zn (κ := 5) (f0 := zf 5) hx hb LX2 tyX2 tyX2_ok hown (hts _ (by decide +kernel)) (hts _ (by decide +kernel)) (hts _ (by decide +kernel)) hK hI rfl rfl zf_5 (zf_bd 5) (zf_r5 _) (Nat.le_of_ble_eq_true rfl) (Nat.le_of_ble_eq_true rfl) dX3_append_23 (fun am6 H hm7 hI => ?_)
      obtain ⟨j10, ej10⟩ : ∃ z, z = n 5 := ⟨_, rfl⟩
      obtain ⟨n8, en8⟩ : ∃ z, z = upN n 5 (n 5 + 1) := ⟨_, rfl⟩
      obtain ⟨S9, eS9⟩ : ∃ z, z = up2 S 5 (n 5) (zf 5) := ⟨_, rfl⟩
      rw [← en8, ← eS9] at hI
      have v11 : 0 < n8 1 := by rw [en8, upN_r (by decide)]; exact w10
      have r12 : am6 1 0 = am 1 0 := hm7 _ _ (by have := w10; omega)
      have v13 : 0 < n8 2 := by rw [en8, upN_r (by decide)]; exact v5
      have r14 : am6 2 0 = am 2 0 := hm7 _ _ (by have := v5; omega)
      have v15 : j10 < n8 5 := by rw [en8, upN_s]; omega
      replace hl : lv_has ls 4 [(3, .int (iZ (S 1 0 1))), (0, .ref (am6 1 0)), (1, .int (iZ a)), (2, .int (iZ b))] := by simp only [r12, r14]; exact hl
      refine W.eq (g2 := F0 m 26 ls [.ref (am6 5 j10), .int (iZ (S 1 0 1)), .ref (am6 2 0)]) (by simp only [ej10, r12, r14]) ?_
      refine lv_dup hx hb dX3_append_26 rfl ?_
      refine lv_iload_n hx hb dX3_append_27 rfl (lv_at hl 0 rfl) ?_
      refine lv_iload_n hx hb dX3_append_28 rfl (lv_at hl 2 rfl) ?_
      refine lv_iload_n hx hb dX3_append_29 rfl (lv_at hl 3 rfl) ?_
      refine zc_v (zrI (As := [.int (iZ (S 1 0 1)), .int (iZ a), .int (iZ b)]) (rest := [.ref (am6 5 j10), .int (iZ (S 1 0 1)), .ref (am6 2 0)]) ⟨hx, hb, hml, hown, hts⟩ (c_X2_init l D cA n8 am6 S9 H.size j10 (S 1 0 1) a b v15 (by omega) (by omega) (by omega) (by rw [en8, upN_r (by decide)]; omega)) (cwI 3 hts gX3_append_X2_init rfl rfl rfl (hts _ (by decide +kernel)) (hts _ (by decide +kernel)) (hts _ (by decide +kernel)) rfl (by decide +kernel) ⟨Nat.le_of_ble_eq_true rfl, Nat.le_of_ble_eq_true rfl⟩) hK hI rfl hl.1 rfl (Nat.le_of_ble_eq_true rfl) dX3_append_30 ⟨Nat.le_of_ble_eq_true rfl, Nat.le_of_ble_eq_true rfl⟩) hI (fun u9 H locs hp16 hI hfr => ?_)
      clear hfr
      obtain ⟨am17, hm18, rfl⟩ := hp16
      obtain ⟨n19, en19⟩ : ∃ z, z = upN n8 6 (n8 6 + 1) := ⟨_, rfl⟩
      obtain ⟨S20, eS20⟩ : ∃ z, z = yLaneNew n8 S9 j10 (S 1 0 1) a b := ⟨_, rfl⟩
      rw [← en19, ← eS20] at hI
      have v21 : 0 < n19 1 := by rw [en19, upN_r (by decide)]; exact v11
      have r22 : am17 1 0 = am6 1 0 := hm18 _ _ v11
      have v23 : 0 < n19 2 := by rw [en19, upN_r (by decide)]; exact v13
      have r24 : am17 2 0 = am6 2 0 := hm18 _ _ v13
      have v25 : j10 < n19 5 := by rw [en19, upN_r (by decide)]; exact v15
      have r26 : am17 5 j10 = am6 5 j10 := hm18 _ _ v15
      replace hl : lv_has ls 4 [(3, .int (iZ (S 1 0 1))), (0, .ref (am17 1 0)), (1, .int (iZ a)), (2, .int (iZ b))] := by simp only [r22, r24, r26]; exact hl
      refine W.eq (g2 := F0 m 33 ls [.ref (am17 5 j10), .int (iZ (S 1 0 1)), .ref (am17 2 0)]) (by simp only [r22, r24, r26]) ?_
      refine zs_r (κ := 2) (i := 0) (t := 5) (k := j10) (r := (RX2, TX2, 5)) hx hb hK hI v23 rfl v25 rfl rfl (by omega) (by omega) (by omega) (by have := v25; have := hW.2.2.2.1 5; omega) dX3_append_33 (fun H locs hI => ?_)
      obtain ⟨S27, eS27⟩ : ∃ z, z = up3 S20 2 0 ((S 1 0 1).toNat) (j10 : Int) := ⟨_, rfl⟩
      rw [← eS27] at hI
      have hc1 : S27 1 0 1 = (n 5 : Int) := by rw [eS27, up3_n (by omega), eS20, yLaneNew_n (by omega), eS9, up2_r3 (by omega)]; exact hcn.2.2
      refine lv_aload_n hx hb dX3_append_34 rfl (lv_at hl 1 rfl) ?_
      refine lv_dup hx hb dX3_append_35 rfl ?_
      refine zg_i (κ := 1) (i := 0) (k := 1) hx hb LX3 hown hK hI v21 rfl rfl (by decide) rfl f17 (fun _ h9 => h9) dX3_append_36 (by rw [eS27, up3_n (by omega), eS20, yLaneNew_n (by omega), eS9, up2_r3 (by omega)]) (fun b28 => ?_)
      refine z_iconst hx hb dX3_append_39 ?_
      refine z_iadd hx hb dX3_append_40 ?_
      refine zp_i (κ := 1) (i := 0) (k := 1) hx hb LX3 tyX3 tyX3_ok nmX3 hown hK hI v21 rfl rfl (by decide) rfl f17 (fun _ h9 => h9) rfl rfl rfl (by omega) dX3_append_41 (fun H locs hI => ?_)
      obtain ⟨S29, eS29⟩ : ∃ z, z = up3 S27 1 0 1 (S 1 0 1 + 1) := ⟨_, rfl⟩
      rw [← eS29] at hI
      refine lv_iload_n hx hb dX3_append_44 rfl (lv_at hl 0 rfl) ?_
      exact (ze_i (u' := (n19, am17, S29)) (z := S 1 0 1) hx hb hr rfl hI (by omega) ⟨hcn.2.2, am17, amK.up (κ := 5) (v := n 5 + 1) (amK.new hm7) (Nat.le_succ _) (by rw [← en8]; exact hm18), by rw [en19, show n8 6 = n 5 by rw [en8, upN_r (by decide)]; exact h65, en8, eS29, eS27, eS20, en8, eS9, hcn.2.2, Int.toNat_natCast, ej10, yAddL]⟩ (Nat.le_of_ble_eq_true rfl) (Nat.le_of_ble_eq_true rfl) dX3_append_45 hlocks)
set_option maxHeartbeats 4000000 in
set_option maxRecDepth 100000 in
theorem c_X4_addLane (l : Launch) (hfl : l.stackTraces = false) (D : va_G) (cA : Nat → ClassId) (n : Nat → Nat) (am : ts_Am) (S : ts_St) (sz : Nat) (a b : Int) (hW : cW n S) (h65 : n 6 = n 5) (ha0 : iR a) (hb0 : 0 ≤ b ∧ b < 2) : vx_Met l yX4_addLane wsX4_addLane ({ frames := 6, cells := 2, slots := 8, locals := 90 } : Room) (va_Pc [.ref (am 0 0), .int (iZ a), .int (iZ b)] (zPX TX D cA (n, am, S) sz)) (zQi TX D cA (n, am, S) sz (fun z u => ((1 ≤ a ∧ a ≤ 3) ∧ n 5 < 4) ∧ z = (n 5 : Int) ∧ ∃ am', amK n am am' ∧ u = (upN (upN n 5 (n 5 + 1)) 6 (n 5 + 1), am', yAddL n S a b))) (zXX TX D cA (n, am, S) sz (fun E => (E = xN_IAE ∧ ¬ (1 ≤ a ∧ a ≤ 3)) ∨ (E = xN_ISE ∧ (1 ≤ a ∧ a ≤ 3) ∧ ¬ n 5 < 4))) 2 8 (ts_A (n, am, S) sz) := by
  refine zMx_of (by decide) rfl (Nat.le_of_ble_eq_true rfl) ?_
  intro p e s m below meth c hx hb hr hts hown hlocks hml hex hK hG hsz H locs hI ls hl
  subst hsz
  have hown : s.vm.findClass RX4 = some m.cls := hown
  have hl : lv_has ls 3 [(0, .ref (am 0 0)), (1, .int (iZ a)), (2, .int (iZ b))] := hl
  have f10 := hts (.fieldLink RX4 10 "DockyardSlots" "lanes" "LDockyardSlots$LaneRow;") (by decide +kernel)
  have f55 := hts (.fieldLink RX4 55 "DockyardSlots$LaneRow" "count" "I") (by decide +kernel)
  have LX3 : ∀ w ∈ wsX30, w.before [.ref (am 0 0), .int (iZ a), .int (iZ b)].toArray s = true := fun w h => hts w (List.mem_cons_of_mem _ (List.mem_append_left _ (List.mem_append_left _ (List.mem_append_left _ (List.mem_append_right _ h)))))
  have LX4 : ∀ w ∈ wsX40, w.before [.ref (am 0 0), .int (iZ a), .int (iZ b)].toArray s = true := fun w h => hts w (List.mem_cons_of_mem _ (List.mem_append_left _ (List.mem_append_left _ (List.mem_append_left _ (List.mem_append_left _ (List.mem_append_right _ h))))))
  have hlim := hW.lim
  have hcn := hW.cn
  have hcap := hW.2.2.2.1
  have w00 : 0 < n 0 := hW.1.1
  refine lv_iload_n hx hb dX4_addLane_0 rfl (lv_at hl 1 rfl) ?_
  refine z_iconst hx hb dX4_addLane_1 ?_
  refine z_iconst hx hb dX4_addLane_2 ?_
  refine zc_i (zrS (As := [.int (iZ a), .int (iZ 1), .int (iZ 3)]) (rest := []) ⟨hx, hb, hml, hown, hts⟩ (c_X4_isOutside l D cA n am S H.size a 1 3 (by omega) (by omega) (by omega)) (va_cwS 3 hts gX4_addLane_X4_isOutside rfl rfl rfl (by decide +kernel) ⟨Nat.le_of_ble_eq_true rfl, Nat.le_of_ble_eq_true rfl⟩) hK hI rfl hl.1 rfl (Nat.le_of_ble_eq_true rfl) dX4_addLane_3 ⟨Nat.le_of_ble_eq_true rfl, Nat.le_of_ble_eq_true rfl⟩) hI (fun z1 u9 H locs hz2 hp3 hI hfr => ?_)
  clear hfr
  obtain ⟨rfl, rfl⟩ := hp3
  refine z_if_eq (tgt := 19) hx hb dX4_addLane_6 (by decide) (by omega) (fun c4 => ?_) (fun c4 => ?_)
  · skip
    have c4 := zB_0 c4
    unfold yOut at c4
    refine lv_aload_n hx hb dX4_addLane_19 rfl (lv_at hl 0 rfl) ?_
    refine zg_r (κ := 0) (i := 0) (k := 0) (t := 1) (j := 0) hx hb LX4 hown hK hI w00 rfl rfl (by decide) rfl f10 (fun _ h9 => h9) dX4_addLane_20 hW.2.1.1 (fun v5 => ?_)
    refine zg_i (κ := 1) (i := 0) (k := 1) hx hb LX3 hown hK hI v5 rfl rfl (by decide) rfl f55 (fun _ h9 => h9) dX4_addLane_23 rfl (fun b6 => ?_)
    refine z_iconst hx hb dX4_addLane_26 ?_
    refine z_icmp_lt (tgt := 40) hx hb dX4_addLane_27 (by decide) (by omega) (by omega) (fun c7 => ?_) (fun c7 => ?_)
    · skip
      refine lv_aload_n hx hb dX4_addLane_40 rfl (lv_at hl 0 rfl) ?_
      refine zg_r (κ := 0) (i := 0) (k := 0) (t := 1) (j := 0) hx hb LX4 hown hK hI w00 rfl rfl (by decide) rfl f10 (fun _ h9 => h9) dX4_addLane_41 hW.2.1.1 (fun v8 => ?_)
      refine lv_iload_n hx hb dX4_addLane_44 rfl (lv_at hl 1 rfl) ?_
      refine lv_iload_n hx hb dX4_addLane_45 rfl (lv_at hl 2 rfl) ?_
      refine zc_i (zrV (As := [.int (iZ a), .int (iZ b)]) (rest := []) (κ := 1) (i := 0) ⟨hx, hb, hml, hown, hts⟩ (c_X3_append l D cA n am S H.size a b hW h65 (by omega) (by omega) (by omega)) (cwV 2 hts gX4_addLane_X3_append rfl rfl rfl (by decide +kernel) ⟨Nat.le_of_ble_eq_true rfl, Nat.le_of_ble_eq_true rfl⟩) hK hI v8 rfl rfl rfl hl.1 rfl (Nat.le_of_ble_eq_true rfl) dX4_addLane_46 ⟨Nat.le_of_ble_eq_true rfl, Nat.le_of_ble_eq_true rfl⟩) hI (fun z9 u9 H locs hz10 hp11 hI hfr => ?_)
      clear hfr
      obtain ⟨rfl, am12, hm13, rfl⟩ := hp11
      obtain ⟨n14, en14⟩ : ∃ z, z = upN (upN n 5 (n 5 + 1)) 6 (n 5 + 1) := ⟨_, rfl⟩
      obtain ⟨S15, eS15⟩ : ∃ z, z = yAddL n S a b := ⟨_, rfl⟩
      rw [← en14, ← eS15] at hI
      have v16 : 0 < n14 0 := by rw [en14, upN_r (by decide), upN_r (by decide)]; exact w00
      have r17 : am12 0 0 = am 0 0 := hm13 _ _ w00
      have v18 : 0 < n14 1 := by rw [en14, upN_r (by decide), upN_r (by decide)]; exact v8
      have r19 : am12 1 0 = am 1 0 := hm13 _ _ v8
      replace hl : lv_has ls 3 [(0, .ref (am12 0 0)), (1, .int (iZ a)), (2, .int (iZ b))] := by simp only [r17, r19]; exact hl
      refine W.eq (g2 := F0 m 49 ls [.int (iZ (n 5 : Int))]) (by simp only [r17, r19]) ?_
      exact vx_ret (ze_i (u' := (n14, am12, S15)) (z := (n 5 : Int)) hx hb hr rfl hI (by omega) ⟨⟨by omega, by omega⟩, rfl, am12, hm13, by rw [en14, eS15]⟩ (Nat.le_of_ble_eq_true rfl) (Nat.le_of_ble_eq_true rfl) dX4_addLane_49 hlocks)
    · skip
      exact zx_throw (text := "there are 4 lanes") hx hb hfl hown hG hI xC_ISE xF_ISE (hts _ (by decide +kernel)) (hts _ (by decide +kernel)) (fun w h => hts w (List.mem_cons_of_mem _ (List.mem_append_right _ h))) xA_ISE xO_ISE (by decide +kernel) (by rw [hml]; exact hl.1) dX4_addLane_30 dX4_addLane_33 dX4_addLane_34 dX4_addLane_36 dX4_addLane_39 hex (Nat.le_of_ble_eq_true rfl) (Nat.le_of_ble_eq_true rfl) (Nat.le_of_ble_eq_true rfl) (Nat.le_of_ble_eq_true rfl) hlocks (Or.inr (⟨rfl, by omega, by omega⟩)) (Nat.le_of_ble_eq_true rfl) (Nat.le_of_ble_eq_true rfl)
  · skip
    have c4 := zB_1 c4
    unfold yOut at c4
    exact zx_throw (text := "the capacity is out of range") hx hb hfl hown hG hI xC_IAE xF_IAE (hts _ (by decide +kernel)) (hts _ (by decide +kernel)) (fun w h => hts w (List.mem_cons_of_mem _ (List.mem_append_left _ (List.mem_append_right _ h)))) xA_IAE xO_IAE (by decide +kernel) (by rw [hml]; exact hl.1) dX4_addLane_9 dX4_addLane_12 dX4_addLane_13 dX4_addLane_15 dX4_addLane_18 hex (Nat.le_of_ble_eq_true rfl) (Nat.le_of_ble_eq_true rfl) (Nat.le_of_ble_eq_true rfl) (Nat.le_of_ble_eq_true rfl) hlocks (Or.inl (⟨rfl, by omega⟩)) (Nat.le_of_ble_eq_true rfl) (Nat.le_of_ble_eq_true rfl)
set_option maxHeartbeats 4000000 in
set_option maxRecDepth 100000 in
theorem c_X4_addDoor (l : Launch) (hfl : l.stackTraces = false) (D : va_G) (cA : Nat → ClassId) (n : Nat → Nat) (am : ts_Am) (S : ts_St) (sz : Nat) (a : Int) (hW : cW n S) (ha0 : 0 ≤ a ∧ a < 65536) : vx_Met l yX4_addDoor wsX4_addDoor ({ frames := 6, cells := 1, slots := 6, locals := 90 } : Room) (va_Pc [.ref (am 0 0), .int (iZ a)] (zPX TX D cA (n, am, S) sz)) (zQi TX D cA (n, am, S) sz (fun z u => ((a = 100 ∨ a = 99 ∨ a = 98) ∧ n 7 < 4) ∧ z = (n 7 : Int) ∧ ∃ am', amK n am am' ∧ u = (upN n 7 (n 7 + 1), am', yAddD n S a))) (zXX TX D cA (n, am, S) sz (fun E => (E = xN_IAE ∧ ¬ (a = 100 ∨ a = 99 ∨ a = 98)) ∨ (E = xN_ISE ∧ (a = 100 ∨ a = 99 ∨ a = 98) ∧ ¬ n 7 < 4))) 1 6 (ts_A (n, am, S) sz) := by
  refine zMx_of (by decide) rfl (Nat.le_of_ble_eq_true rfl) ?_
  intro p e s m below meth c hx hb hr hts hown hlocks hml hex hK hG hsz H locs hI ls hl
  subst hsz
  have hown : s.vm.findClass RX4 = some m.cls := hown
  have hl : lv_has ls 3 [(0, .ref (am 0 0)), (1, .int (iZ a))] := hl
  have f18 := hts (.fieldLink RX4 18 "DockyardSlots" "doors" "[LDockyardSlots$Door;") (by decide +kernel)
  have f69 := hts (.fieldLink RX4 69 "DockyardSlots" "doorCount" "I") (by decide +kernel)
  have LX1 : ∀ w ∈ wsX10, w.before [.ref (am 0 0), .int (iZ a)].toArray s = true := fun w h => hts w (List.mem_cons_of_mem _ (List.mem_append_left _ (List.mem_append_left _ (List.mem_append_right _ h))))
  have LX4 : ∀ w ∈ wsX40, w.before [.ref (am 0 0), .int (iZ a)].toArray s = true := fun w h => hts w (List.mem_cons_of_mem _ (List.mem_append_left _ (List.mem_append_left _ (List.mem_append_left _ (List.mem_append_right _ h)))))
  have hlim := hW.lim
  have hcn := hW.cn
  have hcap := hW.2.2.2.1
  have w00 : 0 < n 0 := hW.1.1
  have w30 : 0 < n 3 := hW.1.2.2.2.1
  have h77 := hcap 7
  refine lv_iload_n hx hb dX4_addDoor_0 rfl (lv_at hl 1 rfl) ?_
  refine z_bipush hx hb dX4_addDoor_1 (by decide) ?_
  refine z_icmp_eq (tgt := 28) hx hb dX4_addDoor_3 (by decide) (by omega) (by omega) (fun c1 => ?_) (fun c1 => ?_)
  · skip
    refine lv_aload_n hx hb dX4_addDoor_28 rfl (lv_at hl 0 rfl) ?_
    refine zg_i (κ := 0) (i := 0) (k := 2) hx hb LX4 hown hK hI w00 rfl rfl (by decide) rfl f69 (fun _ h9 => h9) dX4_addDoor_29 rfl (fun b2 => ?_)
    refine z_if_lt (tgt := 47) hx hb dX4_addDoor_32 (by decide) (by omega) (fun c3 => ?_) (fun c3 => ?_)
    · skip
      omega
    · skip
      refine lv_aload_n hx hb dX4_addDoor_35 rfl (lv_at hl 0 rfl) ?_
      refine zg_i (κ := 0) (i := 0) (k := 2) hx hb LX4 hown hK hI w00 rfl rfl (by decide) rfl f69 (fun _ h9 => h9) dX4_addDoor_36 rfl (fun b4 => ?_)
      refine lv_aload_n hx hb dX4_addDoor_39 rfl (lv_at hl 0 rfl) ?_
      refine zg_r (κ := 0) (i := 0) (k := 1) (t := 3) (j := 0) hx hb LX4 hown hK hI w00 rfl rfl (by decide) rfl f18 (fun _ h9 => h9) dX4_addDoor_40 hW.2.1.2.1 (fun v5 => ?_)
      refine zal hx hb hK hI v5 rfl dX4_addDoor_43 ?_
      refine z_icmp_lt (tgt := 57) hx hb dX4_addDoor_44 (by decide) (by omega) (by omega) (fun c6 => ?_) (fun c6 => ?_)
      · skip
        refine lv_aload_n hx hb dX4_addDoor_57 rfl (lv_at hl 0 rfl) ?_
        refine zg_i (κ := 0) (i := 0) (k := 2) hx hb LX4 hown hK hI w00 rfl rfl (by decide) rfl f69 (fun _ h9 => h9) dX4_addDoor_58 rfl (fun b7 => ?_)
        refine lv_istore_n (lv' := [(2, .int (iZ (S 0 0 2))), (0, .ref (am 0 0)), (1, .int (iZ a))]) hx hb dX4_addDoor_61 rfl hl (by decide) rfl (fun ls hl => ?_)
        refine lv_aload_n hx hb dX4_addDoor_62 rfl (lv_at hl 1 rfl) ?_
        refine zg_r (κ := 0) (i := 0) (k := 1) (t := 3) (j := 0) hx hb LX4 hown hK hI w00 rfl rfl (by decide) rfl f18 (fun _ h9 => h9) dX4_addDoor_63 hW.2.1.2.1 (fun v8 => ?_)
        refine lv_iload_n hx hb dX4_addDoor_66 rfl (lv_at hl 0 rfl) ?_
        refine zn (κ := 7) (f0 := zf 7) hx hb LX1 tyX1 tyX1_ok hown (hts _ (by decide +kernel)) (hts _ (by decide +kernel)) (hts _ (by decide +kernel)) hK hI rfl rfl zf_7 (zf_bd 7) (zf_r7 _) (Nat.le_of_ble_eq_true rfl) (Nat.le_of_ble_eq_true rfl) dX4_addDoor_67 (fun am9 H hm10 hI => ?_)
        obtain ⟨j13, ej13⟩ : ∃ z, z = n 7 := ⟨_, rfl⟩
        obtain ⟨n11, en11⟩ : ∃ z, z = upN n 7 (n 7 + 1) := ⟨_, rfl⟩
        obtain ⟨S12, eS12⟩ : ∃ z, z = up2 S 7 (n 7) (zf 7) := ⟨_, rfl⟩
        rw [← en11, ← eS12] at hI
        have v14 : 0 < n11 0 := by rw [en11, upN_r (by decide)]; exact w00
        have r15 : am9 0 0 = am 0 0 := hm10 _ _ (by have := w00; omega)
        have v16 : 0 < n11 3 := by rw [en11, upN_r (by decide)]; exact v8
        have r17 : am9 3 0 = am 3 0 := hm10 _ _ (by have := v8; omega)
        have v18 : j13 < n11 7 := by rw [en11, upN_s]; omega
        replace hl : lv_has ls 3 [(2, .int (iZ (S 0 0 2))), (0, .ref (am9 0 0)), (1, .int (iZ a))] := by simp only [r15, r17]; exact hl
        refine W.eq (g2 := F0 m 70 ls [.ref (am9 7 j13), .int (iZ (S 0 0 2)), .ref (am9 3 0)]) (by simp only [ej13, r15, r17]) ?_
        refine lv_dup hx hb dX4_addDoor_70 rfl ?_
        refine lv_iload_n hx hb dX4_addDoor_71 rfl (lv_at hl 2 rfl) ?_
        refine zc_v (zrI (As := [.int (iZ a)]) (rest := [.ref (am9 7 j13), .int (iZ (S 0 0 2)), .ref (am9 3 0)]) ⟨hx, hb, hml, hown, hts⟩ (c_X1_init l D cA n11 am9 S12 H.size j13 a v18 (by omega)) (cwI 1 hts gX4_addDoor_X1_init rfl rfl rfl (hts _ (by decide +kernel)) (hts _ (by decide +kernel)) (hts _ (by decide +kernel)) rfl (by decide +kernel) ⟨Nat.le_of_ble_eq_true rfl, Nat.le_of_ble_eq_true rfl⟩) hK hI rfl hl.1 rfl (Nat.le_of_ble_eq_true rfl) dX4_addDoor_72 ⟨Nat.le_of_ble_eq_true rfl, Nat.le_of_ble_eq_true rfl⟩) hI (fun u9 H locs hp19 hI hfr => ?_)
        clear hfr
        obtain rfl := hp19
        obtain ⟨S20, eS20⟩ : ∃ z, z = up3 S12 7 j13 0 a := ⟨_, rfl⟩
        rw [← eS20] at hI
        refine zs_r (κ := 3) (i := 0) (t := 7) (k := j13) (r := (RX1, TX1, 2)) hx hb hK hI v16 rfl v18 rfl rfl (by omega) (by omega) (by omega) (by have := v18; have := hW.2.2.2.1 7; omega) dX4_addDoor_75 (fun H locs hI => ?_)
        obtain ⟨S21, eS21⟩ : ∃ z, z = up3 S20 3 0 ((S 0 0 2).toNat) (j13 : Int) := ⟨_, rfl⟩
        rw [← eS21] at hI
        refine lv_aload_n hx hb dX4_addDoor_76 rfl (lv_at hl 1 rfl) ?_
        refine lv_dup hx hb dX4_addDoor_77 rfl ?_
        refine zg_i (κ := 0) (i := 0) (k := 2) hx hb LX4 hown hK hI v14 rfl rfl (by decide) rfl f69 (fun _ h9 => h9) dX4_addDoor_78 (by rw [eS21, up3_n (by omega), eS20, up3_n (by omega), eS12, up2_r3 (by omega)]) (fun b22 => ?_)
        refine z_iconst hx hb dX4_addDoor_81 ?_
        refine z_iadd hx hb dX4_addDoor_82 ?_
        refine zp_i (κ := 0) (i := 0) (k := 2) hx hb LX4 tyX4 tyX4_ok nmX4 hown hK hI v14 rfl rfl (by decide) rfl f69 (fun _ h9 => h9) rfl rfl rfl (by omega) dX4_addDoor_83 (fun H locs hI => ?_)
        obtain ⟨S23, eS23⟩ : ∃ z, z = up3 S21 0 0 2 (S 0 0 2 + 1) := ⟨_, rfl⟩
        rw [← eS23] at hI
        refine lv_iload_n hx hb dX4_addDoor_86 rfl (lv_at hl 0 rfl) ?_
        exact vx_ret (ze_i (u' := (n11, am9, S23)) (z := S 0 0 2) hx hb hr rfl hI (by omega) ⟨⟨by omega, by omega⟩, hcn.1, am9, amK.new hm10, by rw [en11, eS23, eS21, eS20, eS12, hcn.1, Int.toNat_natCast, ej13, yAddD]⟩ (Nat.le_of_ble_eq_true rfl) (Nat.le_of_ble_eq_true rfl) dX4_addDoor_87 hlocks)
      · skip
        exact zx_throw (text := "there are 4 doors") hx hb hfl hown hG hI xC_ISE xF_ISE (hts _ (by decide +kernel)) (hts _ (by decide +kernel)) (fun w h => hts w (List.mem_cons_of_mem _ (List.mem_append_right _ h))) xA_ISE xO_ISE (by decide +kernel) (by rw [hml]; exact hl.1) dX4_addDoor_47 dX4_addDoor_50 dX4_addDoor_51 dX4_addDoor_53 dX4_addDoor_56 hex (Nat.le_of_ble_eq_true rfl) (Nat.le_of_ble_eq_true rfl) (Nat.le_of_ble_eq_true rfl) (Nat.le_of_ble_eq_true rfl) hlocks (Or.inr (⟨rfl, by omega, by omega⟩)) (Nat.le_of_ble_eq_true rfl) (Nat.le_of_ble_eq_true rfl)
  · skip
    refine lv_iload_n hx hb dX4_addDoor_6 rfl (lv_at hl 1 rfl) ?_
    refine z_bipush hx hb dX4_addDoor_7 (by decide) ?_
    refine z_icmp_eq (tgt := 28) hx hb dX4_addDoor_9 (by decide) (by omega) (by omega) (fun c24 => ?_) (fun c24 => ?_)
    · skip
      refine lv_aload_n hx hb dX4_addDoor_28 rfl (lv_at hl 0 rfl) ?_
      refine zg_i (κ := 0) (i := 0) (k := 2) hx hb LX4 hown hK hI w00 rfl rfl (by decide) rfl f69 (fun _ h9 => h9) dX4_addDoor_29 rfl (fun b25 => ?_)
      refine z_if_lt (tgt := 47) hx hb dX4_addDoor_32 (by decide) (by omega) (fun c26 => ?_) (fun c26 => ?_)
      · skip
        omega
      · skip
        refine lv_aload_n hx hb dX4_addDoor_35 rfl (lv_at hl 0 rfl) ?_
        refine zg_i (κ := 0) (i := 0) (k := 2) hx hb LX4 hown hK hI w00 rfl rfl (by decide) rfl f69 (fun _ h9 => h9) dX4_addDoor_36 rfl (fun b27 => ?_)
        refine lv_aload_n hx hb dX4_addDoor_39 rfl (lv_at hl 0 rfl) ?_
        refine zg_r (κ := 0) (i := 0) (k := 1) (t := 3) (j := 0) hx hb LX4 hown hK hI w00 rfl rfl (by decide) rfl f18 (fun _ h9 => h9) dX4_addDoor_40 hW.2.1.2.1 (fun v28 => ?_)
        refine zal hx hb hK hI v28 rfl dX4_addDoor_43 ?_
        refine z_icmp_lt (tgt := 57) hx hb dX4_addDoor_44 (by decide) (by omega) (by omega) (fun c29 => ?_) (fun c29 => ?_)
        · skip
          refine lv_aload_n hx hb dX4_addDoor_57 rfl (lv_at hl 0 rfl) ?_
          refine zg_i (κ := 0) (i := 0) (k := 2) hx hb LX4 hown hK hI w00 rfl rfl (by decide) rfl f69 (fun _ h9 => h9) dX4_addDoor_58 rfl (fun b30 => ?_)
          refine lv_istore_n (lv' := [(2, .int (iZ (S 0 0 2))), (0, .ref (am 0 0)), (1, .int (iZ a))]) hx hb dX4_addDoor_61 rfl hl (by decide) rfl (fun ls hl => ?_)
          refine lv_aload_n hx hb dX4_addDoor_62 rfl (lv_at hl 1 rfl) ?_
          refine zg_r (κ := 0) (i := 0) (k := 1) (t := 3) (j := 0) hx hb LX4 hown hK hI w00 rfl rfl (by decide) rfl f18 (fun _ h9 => h9) dX4_addDoor_63 hW.2.1.2.1 (fun v31 => ?_)
          refine lv_iload_n hx hb dX4_addDoor_66 rfl (lv_at hl 0 rfl) ?_
          refine zn (κ := 7) (f0 := zf 7) hx hb LX1 tyX1 tyX1_ok hown (hts _ (by decide +kernel)) (hts _ (by decide +kernel)) (hts _ (by decide +kernel)) hK hI rfl rfl zf_7 (zf_bd 7) (zf_r7 _) (Nat.le_of_ble_eq_true rfl) (Nat.le_of_ble_eq_true rfl) dX4_addDoor_67 (fun am32 H hm33 hI => ?_)
          obtain ⟨j36, ej36⟩ : ∃ z, z = n 7 := ⟨_, rfl⟩
          obtain ⟨n34, en34⟩ : ∃ z, z = upN n 7 (n 7 + 1) := ⟨_, rfl⟩
          obtain ⟨S35, eS35⟩ : ∃ z, z = up2 S 7 (n 7) (zf 7) := ⟨_, rfl⟩
          rw [← en34, ← eS35] at hI
          have v37 : 0 < n34 0 := by rw [en34, upN_r (by decide)]; exact w00
          have r38 : am32 0 0 = am 0 0 := hm33 _ _ (by have := w00; omega)
          have v39 : 0 < n34 3 := by rw [en34, upN_r (by decide)]; exact v31
          have r40 : am32 3 0 = am 3 0 := hm33 _ _ (by have := v31; omega)
          have v41 : j36 < n34 7 := by rw [en34, upN_s]; omega
          replace hl : lv_has ls 3 [(2, .int (iZ (S 0 0 2))), (0, .ref (am32 0 0)), (1, .int (iZ a))] := by simp only [r38, r40]; exact hl
          refine W.eq (g2 := F0 m 70 ls [.ref (am32 7 j36), .int (iZ (S 0 0 2)), .ref (am32 3 0)]) (by simp only [ej36, r38, r40]) ?_
          refine lv_dup hx hb dX4_addDoor_70 rfl ?_
          refine lv_iload_n hx hb dX4_addDoor_71 rfl (lv_at hl 2 rfl) ?_
          refine zc_v (zrI (As := [.int (iZ a)]) (rest := [.ref (am32 7 j36), .int (iZ (S 0 0 2)), .ref (am32 3 0)]) ⟨hx, hb, hml, hown, hts⟩ (c_X1_init l D cA n34 am32 S35 H.size j36 a v41 (by omega)) (cwI 1 hts gX4_addDoor_X1_init rfl rfl rfl (hts _ (by decide +kernel)) (hts _ (by decide +kernel)) (hts _ (by decide +kernel)) rfl (by decide +kernel) ⟨Nat.le_of_ble_eq_true rfl, Nat.le_of_ble_eq_true rfl⟩) hK hI rfl hl.1 rfl (Nat.le_of_ble_eq_true rfl) dX4_addDoor_72 ⟨Nat.le_of_ble_eq_true rfl, Nat.le_of_ble_eq_true rfl⟩) hI (fun u9 H locs hp42 hI hfr => ?_)
          clear hfr
          obtain rfl := hp42
          obtain ⟨S43, eS43⟩ : ∃ z, z = up3 S35 7 j36 0 a := ⟨_, rfl⟩
          rw [← eS43] at hI
          refine zs_r (κ := 3) (i := 0) (t := 7) (k := j36) (r := (RX1, TX1, 2)) hx hb hK hI v39 rfl v41 rfl rfl (by omega) (by omega) (by omega) (by have := v41; have := hW.2.2.2.1 7; omega) dX4_addDoor_75 (fun H locs hI => ?_)
          obtain ⟨S44, eS44⟩ : ∃ z, z = up3 S43 3 0 ((S 0 0 2).toNat) (j36 : Int) := ⟨_, rfl⟩
          rw [← eS44] at hI
          refine lv_aload_n hx hb dX4_addDoor_76 rfl (lv_at hl 1 rfl) ?_
          refine lv_dup hx hb dX4_addDoor_77 rfl ?_
          refine zg_i (κ := 0) (i := 0) (k := 2) hx hb LX4 hown hK hI v37 rfl rfl (by decide) rfl f69 (fun _ h9 => h9) dX4_addDoor_78 (by rw [eS44, up3_n (by omega), eS43, up3_n (by omega), eS35, up2_r3 (by omega)]) (fun b45 => ?_)
          refine z_iconst hx hb dX4_addDoor_81 ?_
          refine z_iadd hx hb dX4_addDoor_82 ?_
          refine zp_i (κ := 0) (i := 0) (k := 2) hx hb LX4 tyX4 tyX4_ok nmX4 hown hK hI v37 rfl rfl (by decide) rfl f69 (fun _ h9 => h9) rfl rfl rfl (by omega) dX4_addDoor_83 (fun H locs hI => ?_)
          obtain ⟨S46, eS46⟩ : ∃ z, z = up3 S44 0 0 2 (S 0 0 2 + 1) := ⟨_, rfl⟩
          rw [← eS46] at hI
          refine lv_iload_n hx hb dX4_addDoor_86 rfl (lv_at hl 0 rfl) ?_
          exact vx_ret (ze_i (u' := (n34, am32, S46)) (z := S 0 0 2) hx hb hr rfl hI (by omega) ⟨⟨by omega, by omega⟩, hcn.1, am32, amK.new hm33, by rw [en34, eS46, eS44, eS43, eS35, hcn.1, Int.toNat_natCast, ej36, yAddD]⟩ (Nat.le_of_ble_eq_true rfl) (Nat.le_of_ble_eq_true rfl) dX4_addDoor_87 hlocks)
        · skip
          exact zx_throw (text := "there are 4 doors") hx hb hfl hown hG hI xC_ISE xF_ISE (hts _ (by decide +kernel)) (hts _ (by decide +kernel)) (fun w h => hts w (List.mem_cons_of_mem _ (List.mem_append_right _ h))) xA_ISE xO_ISE (by decide +kernel) (by rw [hml]; exact hl.1) dX4_addDoor_47 dX4_addDoor_50 dX4_addDoor_51 dX4_addDoor_53 dX4_addDoor_56 hex (Nat.le_of_ble_eq_true rfl) (Nat.le_of_ble_eq_true rfl) (Nat.le_of_ble_eq_true rfl) (Nat.le_of_ble_eq_true rfl) hlocks (Or.inr (⟨rfl, by omega, by omega⟩)) (Nat.le_of_ble_eq_true rfl) (Nat.le_of_ble_eq_true rfl)
    · skip
      refine lv_iload_n hx hb dX4_addDoor_12 rfl (lv_at hl 1 rfl) ?_
      refine z_bipush hx hb dX4_addDoor_13 (by decide) ?_
      refine z_icmp_eq (tgt := 28) hx hb dX4_addDoor_15 (by decide) (by omega) (by omega) (fun c47 => ?_) (fun c47 => ?_)
      · skip
        refine lv_aload_n hx hb dX4_addDoor_28 rfl (lv_at hl 0 rfl) ?_
        refine zg_i (κ := 0) (i := 0) (k := 2) hx hb LX4 hown hK hI w00 rfl rfl (by decide) rfl f69 (fun _ h9 => h9) dX4_addDoor_29 rfl (fun b48 => ?_)
        refine z_if_lt (tgt := 47) hx hb dX4_addDoor_32 (by decide) (by omega) (fun c49 => ?_) (fun c49 => ?_)
        · skip
          omega
        · skip
          refine lv_aload_n hx hb dX4_addDoor_35 rfl (lv_at hl 0 rfl) ?_
          refine zg_i (κ := 0) (i := 0) (k := 2) hx hb LX4 hown hK hI w00 rfl rfl (by decide) rfl f69 (fun _ h9 => h9) dX4_addDoor_36 rfl (fun b50 => ?_)
          refine lv_aload_n hx hb dX4_addDoor_39 rfl (lv_at hl 0 rfl) ?_
          refine zg_r (κ := 0) (i := 0) (k := 1) (t := 3) (j := 0) hx hb LX4 hown hK hI w00 rfl rfl (by decide) rfl f18 (fun _ h9 => h9) dX4_addDoor_40 hW.2.1.2.1 (fun v51 => ?_)
          refine zal hx hb hK hI v51 rfl dX4_addDoor_43 ?_
          refine z_icmp_lt (tgt := 57) hx hb dX4_addDoor_44 (by decide) (by omega) (by omega) (fun c52 => ?_) (fun c52 => ?_)
          · skip
            refine lv_aload_n hx hb dX4_addDoor_57 rfl (lv_at hl 0 rfl) ?_
            refine zg_i (κ := 0) (i := 0) (k := 2) hx hb LX4 hown hK hI w00 rfl rfl (by decide) rfl f69 (fun _ h9 => h9) dX4_addDoor_58 rfl (fun b53 => ?_)
            refine lv_istore_n (lv' := [(2, .int (iZ (S 0 0 2))), (0, .ref (am 0 0)), (1, .int (iZ a))]) hx hb dX4_addDoor_61 rfl hl (by decide) rfl (fun ls hl => ?_)
            refine lv_aload_n hx hb dX4_addDoor_62 rfl (lv_at hl 1 rfl) ?_
            refine zg_r (κ := 0) (i := 0) (k := 1) (t := 3) (j := 0) hx hb LX4 hown hK hI w00 rfl rfl (by decide) rfl f18 (fun _ h9 => h9) dX4_addDoor_63 hW.2.1.2.1 (fun v54 => ?_)
            refine lv_iload_n hx hb dX4_addDoor_66 rfl (lv_at hl 0 rfl) ?_
            refine zn (κ := 7) (f0 := zf 7) hx hb LX1 tyX1 tyX1_ok hown (hts _ (by decide +kernel)) (hts _ (by decide +kernel)) (hts _ (by decide +kernel)) hK hI rfl rfl zf_7 (zf_bd 7) (zf_r7 _) (Nat.le_of_ble_eq_true rfl) (Nat.le_of_ble_eq_true rfl) dX4_addDoor_67 (fun am55 H hm56 hI => ?_)
            obtain ⟨j59, ej59⟩ : ∃ z, z = n 7 := ⟨_, rfl⟩
            obtain ⟨n57, en57⟩ : ∃ z, z = upN n 7 (n 7 + 1) := ⟨_, rfl⟩
            obtain ⟨S58, eS58⟩ : ∃ z, z = up2 S 7 (n 7) (zf 7) := ⟨_, rfl⟩
            rw [← en57, ← eS58] at hI
            have v60 : 0 < n57 0 := by rw [en57, upN_r (by decide)]; exact w00
            have r61 : am55 0 0 = am 0 0 := hm56 _ _ (by have := w00; omega)
            have v62 : 0 < n57 3 := by rw [en57, upN_r (by decide)]; exact v54
            have r63 : am55 3 0 = am 3 0 := hm56 _ _ (by have := v54; omega)
            have v64 : j59 < n57 7 := by rw [en57, upN_s]; omega
            replace hl : lv_has ls 3 [(2, .int (iZ (S 0 0 2))), (0, .ref (am55 0 0)), (1, .int (iZ a))] := by simp only [r61, r63]; exact hl
            refine W.eq (g2 := F0 m 70 ls [.ref (am55 7 j59), .int (iZ (S 0 0 2)), .ref (am55 3 0)]) (by simp only [ej59, r61, r63]) ?_
            refine lv_dup hx hb dX4_addDoor_70 rfl ?_
            refine lv_iload_n hx hb dX4_addDoor_71 rfl (lv_at hl 2 rfl) ?_
            refine zc_v (zrI (As := [.int (iZ a)]) (rest := [.ref (am55 7 j59), .int (iZ (S 0 0 2)), .ref (am55 3 0)]) ⟨hx, hb, hml, hown, hts⟩ (c_X1_init l D cA n57 am55 S58 H.size j59 a v64 (by omega)) (cwI 1 hts gX4_addDoor_X1_init rfl rfl rfl (hts _ (by decide +kernel)) (hts _ (by decide +kernel)) (hts _ (by decide +kernel)) rfl (by decide +kernel) ⟨Nat.le_of_ble_eq_true rfl, Nat.le_of_ble_eq_true rfl⟩) hK hI rfl hl.1 rfl (Nat.le_of_ble_eq_true rfl) dX4_addDoor_72 ⟨Nat.le_of_ble_eq_true rfl, Nat.le_of_ble_eq_true rfl⟩) hI (fun u9 H locs hp65 hI hfr => ?_)
            clear hfr
            obtain rfl := hp65
            obtain ⟨S66, eS66⟩ : ∃ z, z = up3 S58 7 j59 0 a := ⟨_, rfl⟩
            rw [← eS66] at hI
            refine zs_r (κ := 3) (i := 0) (t := 7) (k := j59) (r := (RX1, TX1, 2)) hx hb hK hI v62 rfl v64 rfl rfl (by omega) (by omega) (by omega) (by have := v64; have := hW.2.2.2.1 7; omega) dX4_addDoor_75 (fun H locs hI => ?_)
            obtain ⟨S67, eS67⟩ : ∃ z, z = up3 S66 3 0 ((S 0 0 2).toNat) (j59 : Int) := ⟨_, rfl⟩
            rw [← eS67] at hI
            refine lv_aload_n hx hb dX4_addDoor_76 rfl (lv_at hl 1 rfl) ?_
            refine lv_dup hx hb dX4_addDoor_77 rfl ?_
            refine zg_i (κ := 0) (i := 0) (k := 2) hx hb LX4 hown hK hI v60 rfl rfl (by decide) rfl f69 (fun _ h9 => h9) dX4_addDoor_78 (by rw [eS67, up3_n (by omega), eS66, up3_n (by omega), eS58, up2_r3 (by omega)]) (fun b68 => ?_)
            refine z_iconst hx hb dX4_addDoor_81 ?_
            refine z_iadd hx hb dX4_addDoor_82 ?_
            refine zp_i (κ := 0) (i := 0) (k := 2) hx hb LX4 tyX4 tyX4_ok nmX4 hown hK hI v60 rfl rfl (by decide) rfl f69 (fun _ h9 => h9) rfl rfl rfl (by omega) dX4_addDoor_83 (fun H locs hI => ?_)
            obtain ⟨S69, eS69⟩ : ∃ z, z = up3 S67 0 0 2 (S 0 0 2 + 1) := ⟨_, rfl⟩
            rw [← eS69] at hI
            refine lv_iload_n hx hb dX4_addDoor_86 rfl (lv_at hl 0 rfl) ?_
            exact vx_ret (ze_i (u' := (n57, am55, S69)) (z := S 0 0 2) hx hb hr rfl hI (by omega) ⟨⟨by omega, by omega⟩, hcn.1, am55, amK.new hm56, by rw [en57, eS69, eS67, eS66, eS58, hcn.1, Int.toNat_natCast, ej59, yAddD]⟩ (Nat.le_of_ble_eq_true rfl) (Nat.le_of_ble_eq_true rfl) dX4_addDoor_87 hlocks)
          · skip
            exact zx_throw (text := "there are 4 doors") hx hb hfl hown hG hI xC_ISE xF_ISE (hts _ (by decide +kernel)) (hts _ (by decide +kernel)) (fun w h => hts w (List.mem_cons_of_mem _ (List.mem_append_right _ h))) xA_ISE xO_ISE (by decide +kernel) (by rw [hml]; exact hl.1) dX4_addDoor_47 dX4_addDoor_50 dX4_addDoor_51 dX4_addDoor_53 dX4_addDoor_56 hex (Nat.le_of_ble_eq_true rfl) (Nat.le_of_ble_eq_true rfl) (Nat.le_of_ble_eq_true rfl) (Nat.le_of_ble_eq_true rfl) hlocks (Or.inr (⟨rfl, by omega, by omega⟩)) (Nat.le_of_ble_eq_true rfl) (Nat.le_of_ble_eq_true rfl)
      · skip
        exact zx_throw (text := "there is no such kind") hx hb hfl hown hG hI xC_IAE xF_IAE (hts _ (by decide +kernel)) (hts _ (by decide +kernel)) (fun w h => hts w (List.mem_cons_of_mem _ (List.mem_append_left _ (List.mem_append_right _ h)))) xA_IAE xO_IAE (by decide +kernel) (by rw [hml]; exact hl.1) dX4_addDoor_18 dX4_addDoor_21 dX4_addDoor_22 dX4_addDoor_24 dX4_addDoor_27 hex (Nat.le_of_ble_eq_true rfl) (Nat.le_of_ble_eq_true rfl) (Nat.le_of_ble_eq_true rfl) (Nat.le_of_ble_eq_true rfl) hlocks (Or.inl (⟨rfl, by omega⟩)) (Nat.le_of_ble_eq_true rfl) (Nat.le_of_ble_eq_true rfl)
theorem yAppNew_n {S : ts_St} {i : Nat} {x a b d : Int} {κ j k : Nat} (h : ¬ κ = 8) : yAppNew S i x a b d κ j k = S κ j k := by
  unfold yAppNew
  rw [up3_n (by omega), up3_n (by omega), up3_n (by omega), up3_n (by omega), up3_n (by omega)]
set_option maxHeartbeats 4000000 in
set_option maxRecDepth 100000 in
theorem c_X4_book (l : Launch) (hfl : l.stackTraces = false) (D : va_G) (cA : Nat → ClassId) (n : Nat → Nat) (am : ts_Am) (S : ts_St) (sz : Nat) (a b d : Int) (hW : cW n S) (hcr : cR n S) (ha0 : iR a) (hb0 : 0 ≤ b ∧ b < 65536) (hd0 : iR d) : vx_Met l yX4_book wsX4_book ({ frames := 6, cells := 1, slots := 10, locals := 90 } : Room) (va_Pc [.ref (am 0 0), .int (iZ a), .int (iZ b), .int (iZ d)] (zPX TX D cA (n, am, S) sz)) (zQi TX D cA (n, am, S) sz (fun z u => (((S 0 0 10 ≤ a ∧ a ≤ 999) ∧ (b = 100 ∨ b = 99) ∧ 1 ≤ d ∧ d ≤ 9) ∧ n 8 < 40) ∧ z = (n 8 : Int) ∧ ∃ am', amK n am am' ∧ u = (upN n 8 (n 8 + 1), am', yBookA n S a b d))) (zXX TX D cA (n, am, S) sz (fun E => (E = xN_IAE ∧ ¬ ((S 0 0 10 ≤ a ∧ a ≤ 999) ∧ (b = 100 ∨ b = 99) ∧ 1 ≤ d ∧ d ≤ 9)) ∨ (E = xN_ISE ∧ ((S 0 0 10 ≤ a ∧ a ≤ 999) ∧ (b = 100 ∨ b = 99) ∧ 1 ≤ d ∧ d ≤ 9) ∧ ¬ n 8 < 40))) 1 10 (ts_A (n, am, S) sz) := by
  refine zMx_of (by decide) rfl (Nat.le_of_ble_eq_true rfl) ?_
  intro p e s m below meth c hx hb hr hts hown hlocks hml hex hK hG hsz H locs hI ls hl
  subst hsz
  have hown : s.vm.findClass RX4 = some m.cls := hown
  have hl : lv_has ls 5 [(0, .ref (am 0 0)), (1, .int (iZ a)), (2, .int (iZ b)), (3, .int (iZ d))] := hl
  have f24 := hts (.fieldLink RX4 24 "DockyardSlots" "appointments" "[LDockyardSlots$Appointment;") (by decide +kernel)
  have f81 := hts (.fieldLink RX4 81 "DockyardSlots" "now" "I") (by decide +kernel)
  have f86 := hts (.fieldLink RX4 86 "DockyardSlots" "appointmentCount" "I") (by decide +kernel)
  have LX0 : ∀ w ∈ wsX00, w.before [.ref (am 0 0), .int (iZ a), .int (iZ b), .int (iZ d)].toArray s = true := fun w h => hts w (List.mem_cons_of_mem _ (List.mem_append_left _ (List.mem_append_left _ (List.mem_append_right _ h))))
  have LX4 : ∀ w ∈ wsX40, w.before [.ref (am 0 0), .int (iZ a), .int (iZ b), .int (iZ d)].toArray s = true := fun w h => hts w (List.mem_cons_of_mem _ (List.mem_append_left _ (List.mem_append_left _ (List.mem_append_left _ (List.mem_append_right _ h)))))
  have hlim := hW.lim
  have hcn := hW.cn
  have hcap := hW.2.2.2.1
  have w00 : 0 < n 0 := hW.1.1
  have w40 : 0 < n 4 := hW.1.2.2.2.2
  have h88 := hcap 8
  have hcr1 := hcr.1
  refine lv_iload_n hx hb dX4_book_0 rfl (lv_at hl 1 rfl) ?_
  refine lv_aload_n hx hb dX4_book_1 rfl (lv_at hl 0 rfl) ?_
  refine zg_i (κ := 0) (i := 0) (k := 10) hx hb LX4 hown hK hI w00 rfl rfl (by decide) rfl f81 (fun _ h9 => h9) dX4_book_2 rfl (fun b1 => ?_)
  refine z_sipush hx hb dX4_book_5 (by decide) ?_
  refine zc_i (zrS (As := [.int (iZ a), .int (iZ (S 0 0 10)), .int (iZ 999)]) (rest := []) ⟨hx, hb, hml, hown, hts⟩ (c_X4_isOutside l D cA n am S H.size a (S 0 0 10) 999 (by omega) (by omega) (by omega)) (va_cwS 3 hts gX4_book_X4_isOutside rfl rfl rfl (by decide +kernel) ⟨Nat.le_of_ble_eq_true rfl, Nat.le_of_ble_eq_true rfl⟩) hK hI rfl hl.1 rfl (Nat.le_of_ble_eq_true rfl) dX4_book_8 ⟨Nat.le_of_ble_eq_true rfl, Nat.le_of_ble_eq_true rfl⟩) hI (fun z2 u9 H locs hz3 hp4 hI hfr => ?_)
  clear hfr
  obtain ⟨rfl, rfl⟩ := hp4
  refine z_if_ne (tgt := 24) hx hb dX4_book_11 (by decide) (by omega) (fun c5 => ?_) (fun c5 => ?_)
  · skip
    have c5 := zB_1 c5
    unfold yOut at c5
    exact zx_throw (text := "the hour or the work is out of range") hx hb hfl hown hG hI xC_IAE xF_IAE (hts _ (by decide +kernel)) (hts _ (by decide +kernel)) (fun w h => hts w (List.mem_cons_of_mem _ (List.mem_append_left _ (List.mem_append_right _ h)))) xA_IAE xO_IAE (by decide +kernel) (by rw [hml]; exact hl.1) dX4_book_24 dX4_book_27 dX4_book_28 dX4_book_30 dX4_book_33 hex (Nat.le_of_ble_eq_true rfl) (Nat.le_of_ble_eq_true rfl) (Nat.le_of_ble_eq_true rfl) (Nat.le_of_ble_eq_true rfl) hlocks (Or.inl (⟨rfl, by omega⟩)) (Nat.le_of_ble_eq_true rfl) (Nat.le_of_ble_eq_true rfl)
  · skip
    have c5 := zB_0 c5
    unfold yOut at c5
    refine lv_iload_n hx hb dX4_book_14 rfl (lv_at hl 3 rfl) ?_
    refine z_iconst hx hb dX4_book_15 ?_
    refine z_bipush hx hb dX4_book_16 (by decide) ?_
    refine zc_i (zrS (As := [.int (iZ d), .int (iZ 1), .int (iZ 9)]) (rest := []) ⟨hx, hb, hml, hown, hts⟩ (c_X4_isOutside l D cA n am S H.size d 1 9 (by omega) (by omega) (by omega)) (va_cwS 3 hts gX4_book_X4_isOutside rfl rfl rfl (by decide +kernel) ⟨Nat.le_of_ble_eq_true rfl, Nat.le_of_ble_eq_true rfl⟩) hK hI rfl hl.1 rfl (Nat.le_of_ble_eq_true rfl) dX4_book_18 ⟨Nat.le_of_ble_eq_true rfl, Nat.le_of_ble_eq_true rfl⟩) hI (fun z6 u9 H locs hz7 hp8 hI hfr => ?_)
    clear hfr
    obtain ⟨rfl, rfl⟩ := hp8
    refine z_if_eq (tgt := 34) hx hb dX4_book_21 (by decide) (by omega) (fun c9 => ?_) (fun c9 => ?_)
    · skip
      have c9 := zB_0 c9
      unfold yOut at c9
      refine lv_iload_n hx hb dX4_book_34 rfl (lv_at hl 2 rfl) ?_
      refine z_bipush hx hb dX4_book_35 (by decide) ?_
      refine z_icmp_eq (tgt := 56) hx hb dX4_book_37 (by decide) (by omega) (by omega) (fun c10 => ?_) (fun c10 => ?_)
      · skip
        refine lv_aload_n hx hb dX4_book_56 rfl (lv_at hl 0 rfl) ?_
        refine zg_i (κ := 0) (i := 0) (k := 4) hx hb LX4 hown hK hI w00 rfl rfl (by decide) rfl f86 (fun _ h9 => h9) dX4_book_57 rfl (fun b11 => ?_)
        refine z_if_lt (tgt := 75) hx hb dX4_book_60 (by decide) (by omega) (fun c12 => ?_) (fun c12 => ?_)
        · skip
          omega
        · skip
          refine lv_aload_n hx hb dX4_book_63 rfl (lv_at hl 0 rfl) ?_
          refine zg_i (κ := 0) (i := 0) (k := 4) hx hb LX4 hown hK hI w00 rfl rfl (by decide) rfl f86 (fun _ h9 => h9) dX4_book_64 rfl (fun b13 => ?_)
          refine lv_aload_n hx hb dX4_book_67 rfl (lv_at hl 0 rfl) ?_
          refine zg_r (κ := 0) (i := 0) (k := 3) (t := 4) (j := 0) hx hb LX4 hown hK hI w00 rfl rfl (by decide) rfl f24 (fun _ h9 => h9) dX4_book_68 hW.2.1.2.2.1 (fun v14 => ?_)
          refine zal hx hb hK hI v14 rfl dX4_book_71 ?_
          refine z_icmp_lt (tgt := 85) hx hb dX4_book_72 (by decide) (by omega) (by omega) (fun c15 => ?_) (fun c15 => ?_)
          · skip
            refine lv_aload_n hx hb dX4_book_85 rfl (lv_at hl 0 rfl) ?_
            refine zg_i (κ := 0) (i := 0) (k := 4) hx hb LX4 hown hK hI w00 rfl rfl (by decide) rfl f86 (fun _ h9 => h9) dX4_book_86 rfl (fun b16 => ?_)
            refine lv_istore (lv' := [(4, .int (iZ (S 0 0 4))), (0, .ref (am 0 0)), (1, .int (iZ a)), (2, .int (iZ b)), (3, .int (iZ d))]) hx hb dX4_book_89 hl (by decide) rfl (fun ls hl => ?_)
            refine lv_aload_n hx hb dX4_book_91 rfl (lv_at hl 1 rfl) ?_
            refine zg_r (κ := 0) (i := 0) (k := 3) (t := 4) (j := 0) hx hb LX4 hown hK hI w00 rfl rfl (by decide) rfl f24 (fun _ h9 => h9) dX4_book_92 hW.2.1.2.2.1 (fun v17 => ?_)
            refine lv_iload hx hb dX4_book_95 (lv_at hl 0 rfl) ?_
            refine zn (κ := 8) (f0 := zf 8) hx hb LX0 tyX0 tyX0_ok hown (hts _ (by decide +kernel)) (hts _ (by decide +kernel)) (hts _ (by decide +kernel)) hK hI rfl rfl zf_8 (zf_bd 8) (zf_r8 _) (Nat.le_of_ble_eq_true rfl) (Nat.le_of_ble_eq_true rfl) dX4_book_97 (fun am18 H hm19 hI => ?_)
            obtain ⟨j22, ej22⟩ : ∃ z, z = n 8 := ⟨_, rfl⟩
            obtain ⟨n20, en20⟩ : ∃ z, z = upN n 8 (n 8 + 1) := ⟨_, rfl⟩
            obtain ⟨S21, eS21⟩ : ∃ z, z = up2 S 8 (n 8) (zf 8) := ⟨_, rfl⟩
            rw [← en20, ← eS21] at hI
            have v23 : 0 < n20 0 := by rw [en20, upN_r (by decide)]; exact w00
            have r24 : am18 0 0 = am 0 0 := hm19 _ _ (by have := w00; omega)
            have v25 : 0 < n20 4 := by rw [en20, upN_r (by decide)]; exact v17
            have r26 : am18 4 0 = am 4 0 := hm19 _ _ (by have := v17; omega)
            have v27 : j22 < n20 8 := by rw [en20, upN_s]; omega
            replace hl : lv_has ls 5 [(4, .int (iZ (S 0 0 4))), (0, .ref (am18 0 0)), (1, .int (iZ a)), (2, .int (iZ b)), (3, .int (iZ d))] := by simp only [r24, r26]; exact hl
            refine W.eq (g2 := F0 m 100 ls [.ref (am18 8 j22), .int (iZ (S 0 0 4)), .ref (am18 4 0)]) (by simp only [ej22, r24, r26]) ?_
            refine lv_dup hx hb dX4_book_100 rfl ?_
            refine lv_iload hx hb dX4_book_101 (lv_at hl 0 rfl) ?_
            refine lv_iload_n hx hb dX4_book_103 rfl (lv_at hl 2 rfl) ?_
            refine lv_iload_n hx hb dX4_book_104 rfl (lv_at hl 3 rfl) ?_
            refine lv_iload_n hx hb dX4_book_105 rfl (lv_at hl 4 rfl) ?_
            refine zc_v (zrI (As := [.int (iZ (S 0 0 4)), .int (iZ a), .int (iZ b), .int (iZ d)]) (rest := [.ref (am18 8 j22), .int (iZ (S 0 0 4)), .ref (am18 4 0)]) ⟨hx, hb, hml, hown, hts⟩ (c_X0_init l D cA n20 am18 S21 H.size j22 (S 0 0 4) a b d v27 (by omega) (by omega) (by omega) (by omega)) (cwI 4 hts gX4_book_X0_init rfl rfl rfl (hts _ (by decide +kernel)) (hts _ (by decide +kernel)) (hts _ (by decide +kernel)) rfl (by decide +kernel) ⟨Nat.le_of_ble_eq_true rfl, Nat.le_of_ble_eq_true rfl⟩) hK hI rfl hl.1 rfl (Nat.le_of_ble_eq_true rfl) dX4_book_106 ⟨Nat.le_of_ble_eq_true rfl, Nat.le_of_ble_eq_true rfl⟩) hI (fun u9 H locs hp28 hI hfr => ?_)
            clear hfr
            obtain rfl := hp28
            obtain ⟨S29, eS29⟩ : ∃ z, z = yAppNew S21 j22 (S 0 0 4) a b d := ⟨_, rfl⟩
            rw [← eS29] at hI
            refine zs_r (κ := 4) (i := 0) (t := 8) (k := j22) (r := (RX0, TX0, 10)) hx hb hK hI v25 rfl v27 rfl rfl (by omega) (by omega) (by omega) (by have := v27; have := hW.2.2.2.1 8; omega) dX4_book_109 (fun H locs hI => ?_)
            obtain ⟨S30, eS30⟩ : ∃ z, z = up3 S29 4 0 ((S 0 0 4).toNat) (j22 : Int) := ⟨_, rfl⟩
            rw [← eS30] at hI
            refine lv_aload_n hx hb dX4_book_110 rfl (lv_at hl 1 rfl) ?_
            refine lv_dup hx hb dX4_book_111 rfl ?_
            refine zg_i (κ := 0) (i := 0) (k := 4) hx hb LX4 hown hK hI v23 rfl rfl (by decide) rfl f86 (fun _ h9 => h9) dX4_book_112 (by rw [eS30, up3_n (by omega), eS29, yAppNew_n (by omega), eS21, up2_r3 (by omega)]) (fun b31 => ?_)
            refine z_iconst hx hb dX4_book_115 ?_
            refine z_iadd hx hb dX4_book_116 ?_
            refine zp_i (κ := 0) (i := 0) (k := 4) hx hb LX4 tyX4 tyX4_ok nmX4 hown hK hI v23 rfl rfl (by decide) rfl f86 (fun _ h9 => h9) rfl rfl rfl (by omega) dX4_book_117 (fun H locs hI => ?_)
            obtain ⟨S32, eS32⟩ : ∃ z, z = up3 S30 0 0 4 (S 0 0 4 + 1) := ⟨_, rfl⟩
            rw [← eS32] at hI
            refine lv_iload hx hb dX4_book_120 (lv_at hl 0 rfl) ?_
            exact vx_ret (ze_i (u' := (n20, am18, S32)) (z := S 0 0 4) hx hb hr rfl hI (by omega) ⟨⟨by omega, by omega⟩, hcn.2.1, am18, amK.new hm19, by rw [en20, eS32, eS30, eS29, eS21, hcn.2.1, Int.toNat_natCast, ej22, yBookA]⟩ (Nat.le_of_ble_eq_true rfl) (Nat.le_of_ble_eq_true rfl) dX4_book_122 hlocks)
          · skip
            exact zx_throw (text := "40 appointments have been booked") hx hb hfl hown hG hI xC_ISE xF_ISE (hts _ (by decide +kernel)) (hts _ (by decide +kernel)) (fun w h => hts w (List.mem_cons_of_mem _ (List.mem_append_right _ h))) xA_ISE xO_ISE (by decide +kernel) (by rw [hml]; exact hl.1) dX4_book_75 dX4_book_78 dX4_book_79 dX4_book_81 dX4_book_84 hex (Nat.le_of_ble_eq_true rfl) (Nat.le_of_ble_eq_true rfl) (Nat.le_of_ble_eq_true rfl) (Nat.le_of_ble_eq_true rfl) hlocks (Or.inr (⟨rfl, by omega, by omega⟩)) (Nat.le_of_ble_eq_true rfl) (Nat.le_of_ble_eq_true rfl)
      · skip
        refine lv_iload_n hx hb dX4_book_40 rfl (lv_at hl 2 rfl) ?_
        refine z_bipush hx hb dX4_book_41 (by decide) ?_
        refine z_icmp_eq (tgt := 56) hx hb dX4_book_43 (by decide) (by omega) (by omega) (fun c33 => ?_) (fun c33 => ?_)
        · skip
          refine lv_aload_n hx hb dX4_book_56 rfl (lv_at hl 0 rfl) ?_
          refine zg_i (κ := 0) (i := 0) (k := 4) hx hb LX4 hown hK hI w00 rfl rfl (by decide) rfl f86 (fun _ h9 => h9) dX4_book_57 rfl (fun b34 => ?_)
          refine z_if_lt (tgt := 75) hx hb dX4_book_60 (by decide) (by omega) (fun c35 => ?_) (fun c35 => ?_)
          · skip
            omega
          · skip
            refine lv_aload_n hx hb dX4_book_63 rfl (lv_at hl 0 rfl) ?_
            refine zg_i (κ := 0) (i := 0) (k := 4) hx hb LX4 hown hK hI w00 rfl rfl (by decide) rfl f86 (fun _ h9 => h9) dX4_book_64 rfl (fun b36 => ?_)
            refine lv_aload_n hx hb dX4_book_67 rfl (lv_at hl 0 rfl) ?_
            refine zg_r (κ := 0) (i := 0) (k := 3) (t := 4) (j := 0) hx hb LX4 hown hK hI w00 rfl rfl (by decide) rfl f24 (fun _ h9 => h9) dX4_book_68 hW.2.1.2.2.1 (fun v37 => ?_)
            refine zal hx hb hK hI v37 rfl dX4_book_71 ?_
            refine z_icmp_lt (tgt := 85) hx hb dX4_book_72 (by decide) (by omega) (by omega) (fun c38 => ?_) (fun c38 => ?_)
            · skip
              refine lv_aload_n hx hb dX4_book_85 rfl (lv_at hl 0 rfl) ?_
              refine zg_i (κ := 0) (i := 0) (k := 4) hx hb LX4 hown hK hI w00 rfl rfl (by decide) rfl f86 (fun _ h9 => h9) dX4_book_86 rfl (fun b39 => ?_)
              refine lv_istore (lv' := [(4, .int (iZ (S 0 0 4))), (0, .ref (am 0 0)), (1, .int (iZ a)), (2, .int (iZ b)), (3, .int (iZ d))]) hx hb dX4_book_89 hl (by decide) rfl (fun ls hl => ?_)
              refine lv_aload_n hx hb dX4_book_91 rfl (lv_at hl 1 rfl) ?_
              refine zg_r (κ := 0) (i := 0) (k := 3) (t := 4) (j := 0) hx hb LX4 hown hK hI w00 rfl rfl (by decide) rfl f24 (fun _ h9 => h9) dX4_book_92 hW.2.1.2.2.1 (fun v40 => ?_)
              refine lv_iload hx hb dX4_book_95 (lv_at hl 0 rfl) ?_
              refine zn (κ := 8) (f0 := zf 8) hx hb LX0 tyX0 tyX0_ok hown (hts _ (by decide +kernel)) (hts _ (by decide +kernel)) (hts _ (by decide +kernel)) hK hI rfl rfl zf_8 (zf_bd 8) (zf_r8 _) (Nat.le_of_ble_eq_true rfl) (Nat.le_of_ble_eq_true rfl) dX4_book_97 (fun am41 H hm42 hI => ?_)
              obtain ⟨j45, ej45⟩ : ∃ z, z = n 8 := ⟨_, rfl⟩
              obtain ⟨n43, en43⟩ : ∃ z, z = upN n 8 (n 8 + 1) := ⟨_, rfl⟩
              obtain ⟨S44, eS44⟩ : ∃ z, z = up2 S 8 (n 8) (zf 8) := ⟨_, rfl⟩
              rw [← en43, ← eS44] at hI
              have v46 : 0 < n43 0 := by rw [en43, upN_r (by decide)]; exact w00
              have r47 : am41 0 0 = am 0 0 := hm42 _ _ (by have := w00; omega)
              have v48 : 0 < n43 4 := by rw [en43, upN_r (by decide)]; exact v40
              have r49 : am41 4 0 = am 4 0 := hm42 _ _ (by have := v40; omega)
              have v50 : j45 < n43 8 := by rw [en43, upN_s]; omega
              replace hl : lv_has ls 5 [(4, .int (iZ (S 0 0 4))), (0, .ref (am41 0 0)), (1, .int (iZ a)), (2, .int (iZ b)), (3, .int (iZ d))] := by simp only [r47, r49]; exact hl
              refine W.eq (g2 := F0 m 100 ls [.ref (am41 8 j45), .int (iZ (S 0 0 4)), .ref (am41 4 0)]) (by simp only [ej45, r47, r49]) ?_
              refine lv_dup hx hb dX4_book_100 rfl ?_
              refine lv_iload hx hb dX4_book_101 (lv_at hl 0 rfl) ?_
              refine lv_iload_n hx hb dX4_book_103 rfl (lv_at hl 2 rfl) ?_
              refine lv_iload_n hx hb dX4_book_104 rfl (lv_at hl 3 rfl) ?_
              refine lv_iload_n hx hb dX4_book_105 rfl (lv_at hl 4 rfl) ?_
              refine zc_v (zrI (As := [.int (iZ (S 0 0 4)), .int (iZ a), .int (iZ b), .int (iZ d)]) (rest := [.ref (am41 8 j45), .int (iZ (S 0 0 4)), .ref (am41 4 0)]) ⟨hx, hb, hml, hown, hts⟩ (c_X0_init l D cA n43 am41 S44 H.size j45 (S 0 0 4) a b d v50 (by omega) (by omega) (by omega) (by omega)) (cwI 4 hts gX4_book_X0_init rfl rfl rfl (hts _ (by decide +kernel)) (hts _ (by decide +kernel)) (hts _ (by decide +kernel)) rfl (by decide +kernel) ⟨Nat.le_of_ble_eq_true rfl, Nat.le_of_ble_eq_true rfl⟩) hK hI rfl hl.1 rfl (Nat.le_of_ble_eq_true rfl) dX4_book_106 ⟨Nat.le_of_ble_eq_true rfl, Nat.le_of_ble_eq_true rfl⟩) hI (fun u9 H locs hp51 hI hfr => ?_)
              clear hfr
              obtain rfl := hp51
              obtain ⟨S52, eS52⟩ : ∃ z, z = yAppNew S44 j45 (S 0 0 4) a b d := ⟨_, rfl⟩
              rw [← eS52] at hI
              refine zs_r (κ := 4) (i := 0) (t := 8) (k := j45) (r := (RX0, TX0, 10)) hx hb hK hI v48 rfl v50 rfl rfl (by omega) (by omega) (by omega) (by have := v50; have := hW.2.2.2.1 8; omega) dX4_book_109 (fun H locs hI => ?_)
              obtain ⟨S53, eS53⟩ : ∃ z, z = up3 S52 4 0 ((S 0 0 4).toNat) (j45 : Int) := ⟨_, rfl⟩
              rw [← eS53] at hI
              refine lv_aload_n hx hb dX4_book_110 rfl (lv_at hl 1 rfl) ?_
              refine lv_dup hx hb dX4_book_111 rfl ?_
              refine zg_i (κ := 0) (i := 0) (k := 4) hx hb LX4 hown hK hI v46 rfl rfl (by decide) rfl f86 (fun _ h9 => h9) dX4_book_112 (by rw [eS53, up3_n (by omega), eS52, yAppNew_n (by omega), eS44, up2_r3 (by omega)]) (fun b54 => ?_)
              refine z_iconst hx hb dX4_book_115 ?_
              refine z_iadd hx hb dX4_book_116 ?_
              refine zp_i (κ := 0) (i := 0) (k := 4) hx hb LX4 tyX4 tyX4_ok nmX4 hown hK hI v46 rfl rfl (by decide) rfl f86 (fun _ h9 => h9) rfl rfl rfl (by omega) dX4_book_117 (fun H locs hI => ?_)
              obtain ⟨S55, eS55⟩ : ∃ z, z = up3 S53 0 0 4 (S 0 0 4 + 1) := ⟨_, rfl⟩
              rw [← eS55] at hI
              refine lv_iload hx hb dX4_book_120 (lv_at hl 0 rfl) ?_
              exact vx_ret (ze_i (u' := (n43, am41, S55)) (z := S 0 0 4) hx hb hr rfl hI (by omega) ⟨⟨by omega, by omega⟩, hcn.2.1, am41, amK.new hm42, by rw [en43, eS55, eS53, eS52, eS44, hcn.2.1, Int.toNat_natCast, ej45, yBookA]⟩ (Nat.le_of_ble_eq_true rfl) (Nat.le_of_ble_eq_true rfl) dX4_book_122 hlocks)
            · skip
              exact zx_throw (text := "40 appointments have been booked") hx hb hfl hown hG hI xC_ISE xF_ISE (hts _ (by decide +kernel)) (hts _ (by decide +kernel)) (fun w h => hts w (List.mem_cons_of_mem _ (List.mem_append_right _ h))) xA_ISE xO_ISE (by decide +kernel) (by rw [hml]; exact hl.1) dX4_book_75 dX4_book_78 dX4_book_79 dX4_book_81 dX4_book_84 hex (Nat.le_of_ble_eq_true rfl) (Nat.le_of_ble_eq_true rfl) (Nat.le_of_ble_eq_true rfl) (Nat.le_of_ble_eq_true rfl) hlocks (Or.inr (⟨rfl, by omega, by omega⟩)) (Nat.le_of_ble_eq_true rfl) (Nat.le_of_ble_eq_true rfl)
        · skip
          exact zx_throw (text := "there is no such kind") hx hb hfl hown hG hI xC_IAE xF_IAE (hts _ (by decide +kernel)) (hts _ (by decide +kernel)) (fun w h => hts w (List.mem_cons_of_mem _ (List.mem_append_left _ (List.mem_append_right _ h)))) xA_IAE xO_IAE (by decide +kernel) (by rw [hml]; exact hl.1) dX4_book_46 dX4_book_49 dX4_book_50 dX4_book_52 dX4_book_55 hex (Nat.le_of_ble_eq_true rfl) (Nat.le_of_ble_eq_true rfl) (Nat.le_of_ble_eq_true rfl) (Nat.le_of_ble_eq_true rfl) hlocks (Or.inl (⟨rfl, by omega⟩)) (Nat.le_of_ble_eq_true rfl) (Nat.le_of_ble_eq_true rfl)
    · skip
      have c9 := zB_1 c9
      unfold yOut at c9
      exact zx_throw (text := "the hour or the work is out of range") hx hb hfl hown hG hI xC_IAE xF_IAE (hts _ (by decide +kernel)) (hts _ (by decide +kernel)) (fun w h => hts w (List.mem_cons_of_mem _ (List.mem_append_left _ (List.mem_append_right _ h)))) xA_IAE xO_IAE (by decide +kernel) (by rw [hml]; exact hl.1) dX4_book_24 dX4_book_27 dX4_book_28 dX4_book_30 dX4_book_33 hex (Nat.le_of_ble_eq_true rfl) (Nat.le_of_ble_eq_true rfl) (Nat.le_of_ble_eq_true rfl) (Nat.le_of_ble_eq_true rfl) hlocks (Or.inl (⟨rfl, by omega⟩)) (Nat.le_of_ble_eq_true rfl) (Nat.le_of_ble_eq_true rfl)
