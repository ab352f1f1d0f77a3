/-! THE CLAIM OUT OF ONE WALK OF THE LAW'S BODY. Your part is whole_start (and what it stands on); all else here is the same for every law, but numbers. -/
def R_law : String := "DockyardSlotsLaw"
def lw_P (b : Addr) (xs : List Int32) (args : Array Value) (s : State) : Prop := args = #[.ref b] ∧ s.IntsAt b xs ∧ xs.length ≤ 2560 ∧ (Jvm.Cond.and given_1 narrow_1).before args s = true
/-- what a walk over the start with the record d0 says of its end, said of the start itself -/
theorem lw_closed {s t : State} {o : Outcome} {d0 : Drawn} {L : List Loc} {k n : Nat} (hd0 : s.drawn.sameBut d0 lw_cs) (hv : ∃ v, o = .returned v) (hW : (s.setDrawn d0).WarmedH t.vm) (hs : (s.setDrawn d0).sameButNew ({ t with vm := s.vm } : State) L k n) : State.butDraws s t lw_cs (fun t1 => Framed s o t1 L k n) := by
  have h2 : t.drawn = d0 := congrArg State.drawn hs.1
  refine ⟨⟨hv, hW, State.sameButNew.setDrawn hs s.drawn⟩, ?_, by decide⟩
  rw [h2]
  exact hd0
def lw_Q (_ : Array Value) (s : State) (o : Outcome) (t : State) : Prop := o = .returned (some (.int 1)) ∧ State.butDraws s t lw_cs (fun t1 => Framed s o t1 [] 762397 6708562)
def lw_Z (below : List Frame) (a : Array Value) (s : State) : State → Prop := fun t => ∃ o, t.status = .running ∧ Ended t below o ∧ lw_Q a s o t
/-- the law's own end, with 1 on the stack, nothing written that was there before, its room as the claim has it; d0: the record of draws at this point (at the entry s.drawn: begin with 'refine W.base ?_' and 'have hd0 := Drawn.sameBut.refl s.drawn lw_cs') -/
theorem lw_ret {p : Program} {l : Launch} {e : Env} {s : State} {m : MethodId} {below : List Frame} {meth : Method} {c : Code} {b : Nat} {d0 : Drawn} (hd0 : s.drawn.sameBut d0 lw_cs) (hx : p.tables.exec = Jvm.exec) (hb : c.code = code) (hr : meth.sig.returnType = ret) (hlocks : meth.locks = false) {pc : Nat} {H : Heap} {ls : Array Slot} (hdg : decode code pc = .ok (.ireturn, 1)) : W p l e room_1 (s.setDrawn d0) m #[Value.ref b] below meth c H [] 762397 6708562 (lw_Z below #[Value.ref b] s) (F0 m pc ls [.int 1]) := by
  intro T hT X
  obtain ⟨fs, hret, hrun, hended, hW, hframe⟩ := X.leave (v := some (.int 1)) (hlocks := hlocks) (fun h => by rw [hr] at h; cases h)
  have hmeth' : T.vm.method? m = some meth := X.method'
  refine ⟨T.setFrames fs, ?_, .returned (some (.int 1)), hrun, hended, rfl, lw_closed hd0 ⟨_, rfl⟩ hW hframe⟩
  jvm_step X.here [X.here.top, hx, hb, hdg, hmeth', hr, ret, narrow_b1]
  (try refine ⟨rfl, ?_⟩); (try refine ⟨rfl, ?_⟩)
  first | (intro acts; rw [hret _ acts rfl rfl rfl]) | rw [hret _ _ rfl rfl rfl]
  exact Steps.refl _
/-- what holds at the law's entry: the machine, the code, the tables' words (any of lw_tbl by 'hts w (by decide +kernel)'), the script of L ints xs at the cell b, what the Statement gives of the start (any of its parts by flat_of_before) -/
def lw_At (p : Program) (s : State) (m : MethodId) (meth : Method) (c : Code) (b L : Nat) (xs : Nat → Int32) : Prop :=
  p.tables.exec = Jvm.exec ∧ c.code = code ∧ meth.sig.returnType = ret ∧ c.maxLocals = 9 ∧ s.vm.findClass R_law = some m.cls ∧ (∀ w ∈ lw_tbl, w.before #[Value.ref b] s = true) ∧ va_X b L xs s s.heap ∧ b < s.heap.size ∧ meth.locks = false ∧ (Jvm.Cond.and given_1 narrow_1).before #[Value.ref b] s = true
set_option maxHeartbeats 4000000 in
set_option maxRecDepth 100000 in
theorem whole_start {p : Program} {e : Env} {s : State} {m : MethodId} {below : List Frame} {meth : Method} {c : Code} (l : Launch) (hflags : l.flags = flags0) {b L : Nat} {xs : Nat → Int32} (hL : L ≤ 2560) (C0 : lw_At p s m meth c b L xs) : W p l e room_1 s m #[Value.ref b] below meth c s.heap [] 0 0 (lw_Z below #[Value.ref b] s) (entryFrame m ([Value.ref b] : List Value).toArray 9) := by
  obtain ⟨hx, hb, hr, hml, hown, hts0, hX, hbl, hlocks, hgv⟩ := id C0
  have hfl : l.stackTraces = false := by
    unfold Launch.stackTraces
    rw [hflags]
    decide +kernel
  obtain ⟨D, hK⟩ := ls_world hts0
  obtain ⟨cX, hKX⟩ := ls_KX hts0 hK
  obtain ⟨cM, hKM⟩ := ls_KM hts0 hK
  have hG := ls_G hts0 hgv
  have hN := ls_H hgv
  have hts : ∀ w ∈ wsL_law, w.before #[Value.ref b] s = true := fun w h => hts0 w (wsL_law_in w h)
  have hown : s.vm.findClass RL = some m.cls := hown
  have hrm : room_1.cells = 762397 ∧ room_1.slots = 6708562 := ⟨rfl, rfl⟩
  have LX4 : ∀ w ∈ wsX40, w.before #[Value.ref b] s = true := fun w h => hts w (inlX4 w h)
  have LX5 : ∀ w ∈ wsX50, w.before #[Value.ref b] s = true := fun w h => hts w (inlX5 w h)
  have hl := lv_entry ([.ref b]) (n := 9) (Nat.le_of_ble_eq_true rfl)
  rw [lg_entry_eq]
  generalize (lg_sl ([.ref b]) ++ List.replicate (9 - (lg_sl ([.ref b])).length) Slot.unset).toArray = ls at hl ⊢
  have hl : lv_has ls 9 [(0, .ref b)] := hl
  -- the class's object
  refine zn (tab := TX) (D := D) (cA := cX) (κ := 0) (f0 := zf 0) hx hb LX4 tyX4 tyX4_ok hown (hts0 _ (List.mem_of_getElem? (i := 47) (by decide +kernel))) (hts0 _ (List.mem_of_getElem? (i := 48) (by decide +kernel))) (hts0 _ (List.mem_of_getElem? (i := 29) (by decide +kernel))) hKX (ts_I.none TX D cX s.heap) rfl rfl zf_0 (zf_bd 0) (zf_r0 _) (Nat.le_of_ble_eq_true rfl) (Nat.le_of_ble_eq_true rfl) dL_law_0 (fun am1 H1 hm1 hI1 => ?_)
  obtain ⟨n1, en1⟩ : ∃ z, z = upN (fun _ => 0) 0 (0 + 1) := ⟨_, rfl⟩
  obtain ⟨S1, eS1⟩ : ∃ z, z = up2 (fun _ _ _ => 0) 0 0 (zf 0) := ⟨_, rfl⟩
  replace hI1 : ts_I TX D cX (fun q => s.heap.size ≤ q) s.heap (n1, am1, S1) H1 [] := by rw [en1, eS1]; exact hI1
  refine W.eq (g2 := F0 m 3 ls [.ref (am1 0 0)]) rfl ?_
  refine lv_dup hx hb dL_law_3 rfl ?_
  refine zc_v (zrI (As := []) (rest := [.ref (am1 0 0)]) ⟨hx, hb, hml, hown, hts⟩ (c_X4_init l D cX n1 am1 S1 H1.size 0 rfl (by rw [en1]; rfl) (fun κ h => by rw [en1, upN_r h]) (fun k => by rw [eS1, up2_s])) (cwI 0 hts gL_law_X4_init rfl rfl rfl (hts0 _ (List.mem_of_getElem? (i := 29) (by decide +kernel))) (hts0 _ (List.mem_of_getElem? (i := 49) (by decide +kernel))) (hts0 _ (List.mem_of_getElem? (i := 50) (by decide +kernel))) rfl (by decide +kernel) ⟨Nat.le_of_ble_eq_true rfl, Nat.le_of_ble_eq_true rfl⟩) hKX hI1 rfl hl.1 rfl (Nat.le_of_ble_eq_true rfl) dL_law_4 ⟨Nat.le_of_ble_eq_true rfl, Nat.le_of_ble_eq_true rfl⟩) hI1 (fun u2 H2 locs2 hp2 hI2 _ => ?_)
  obtain ⟨am2, n2, S2, hk2, rfl, hf2⟩ := hp2
  have ea : am1 0 0 = am2 0 0 := (hk2 0 0 (by rw [en1]; decide)).symm
  rw [ea]
  refine va_forget (fun q hq => hI2.2.2.2.2 q hq) ?_
  have hP2 : ts_P TX D cX (upN n2 9 0, am2, S2) H2 := hI2.1.forget9
  have hb2 : ∀ κ i : Nat, i < upN n2 9 0 κ → s.heap.size ≤ am2 κ i := fun κ i hi => hI2.2.1 _ (Or.inl ⟨κ, i, upN_9 hi, rfl⟩)
  have hz2 : s.heap.size ≤ H2.size := hI2.2.2.1
  have ho2 : ∀ q : Nat, q < s.heap.size → H2[q]? = s.heap[q]? := fun q hq => hI2.2.2.2.1 q hq (Nat.not_le.mpr hq)
  have hf2' := hf2.forget9
  obtain ⟨n3, en3⟩ : ∃ z, z = upN n2 9 0 := ⟨_, rfl⟩
  have h93 : n3 9 = 0 := by rw [en3]; exact upN_s _ _ _
  rw [← en3] at hP2 hb2 hf2'
  clear hI2 hI1 hk2 hf2 hm1 en3 en1 eS1
  refine lv_astore_n (lv' := [(1, .ref (am2 0 0)), (0, .ref b)]) hx hb dL_law_7 rfl hl (by decide) rfl (fun ls hl => ?_)
  -- the model's object
  refine zn (tab := TM) (D := D) (cA := cM) (κ := 0) (f0 := zfM) hx hb LX5 tyX5 tyX5_ok hown (hts0 _ (List.mem_of_getElem? (i := 685) (by decide +kernel))) (hts0 _ (List.mem_of_getElem? (i := 686) (by decide +kernel))) (hts0 _ (List.mem_of_getElem? (i := 31) (by decide +kernel))) hKM (ts_I.none TM D cM H2) rfl rfl zfM_0 zfM_bd (zfM_r0 _) (Nat.le_of_ble_eq_true rfl) (Nat.le_of_ble_eq_true rfl) dL_law_8 (fun amN H3 hm3 hI3 => ?_)
  obtain ⟨n4, en4⟩ : ∃ z, z = upN (fun _ => 0) 0 (0 + 1) := ⟨_, rfl⟩
  obtain ⟨S4, eS4⟩ : ∃ z, z = up2 (fun _ _ _ => 0) 0 0 zfM := ⟨_, rfl⟩
  replace hI3 : ts_I TM D cM (fun q => H2.size ≤ q) H2 (n4, amN, S4) H3 [] := by rw [en4, eS4]; exact hI3
  refine W.eq (g2 := F0 m 11 ls [.ref (amN 0 0)]) rfl ?_
  refine lv_dup hx hb dL_law_11 rfl ?_
  refine zc_v (zrI (As := []) (rest := [.ref (amN 0 0)]) ⟨hx, hb, hml, hown, hts⟩ (c_X5_init l D cM n4 amN S4 H3.size (by rw [en4]; rfl) (fun κ h => by rw [en4, upN_r h]) (fun k => by rw [eS4, up2_s])) (cwI 0 hts gL_law_X5_init rfl rfl rfl (hts0 _ (List.mem_of_getElem? (i := 31) (by decide +kernel))) (hts0 _ (List.mem_of_getElem? (i := 687) (by decide +kernel))) (hts0 _ (List.mem_of_getElem? (i := 688) (by decide +kernel))) rfl (by decide +kernel) ⟨Nat.le_of_ble_eq_true rfl, Nat.le_of_ble_eq_true rfl⟩) hKM hI3 rfl hl.1 rfl (Nat.le_of_ble_eq_true rfl) dL_law_12 ⟨Nat.le_of_ble_eq_true rfl, Nat.le_of_ble_eq_true rfl⟩) hI3 (fun u5 H5 locs5 hp5 hI5 _ => ?_)
  obtain ⟨amM, nM, M, hk5, rfl, hf5⟩ := hp5
  have eb : amN 0 0 = amM 0 0 := (hk5 0 0 (by rw [en4]; decide)).symm
  rw [eb]
  refine va_forget (fun q hq => Nat.le_trans hz2 (hI5.2.2.2.2 q hq)) ?_
  have hP5 : ts_P TM D cM (nM, amM, M) H5 := hI5.1
  have hb5 : ∀ κ i : Nat, i < nM κ → H2.size ≤ amM κ i := fun κ i hi => hI5.2.1 _ (Or.inl ⟨κ, i, hi, rfl⟩)
  have hz5 : H2.size ≤ H5.size := hI5.2.2.1
  have ho5 : ∀ q : Nat, q < H2.size → H5[q]? = H2[q]? := fun q hq => hI5.2.2.2.1 q hq (Nat.not_le.mpr hq)
  have hl3 : ∀ κ i : Nat, i < n3 κ → am2 κ i < H2.size := fun κ i hi => hP2.lt hi
  replace hP2 := hP2.kept ho5
  clear hI5 hI3 hk5 hm3 en4 eS4
  refine lv_astore_n (lv' := [(2, .ref (amM 0 0)), (1, .ref (am2 0 0)), (0, .ref b)]) hx hb dL_law_15 rfl hl (by decide) rfl (fun ls hl => ?_)
  -- the array of longs
  refine z_iconst hx hb dL_law_16 ?_
  have hI6 : ts_I TX D cX (ts_A (n3, am2, S2) H5.size) H5 (n3, am2, S2) H5 [] := ⟨hP2, fun _ h => h, va_S.rf⟩
  refine znal (κ := 9) hx hb (hts0 _ (List.mem_of_getElem? (i := 961) (by decide +kernel))) hKX hI6 rfl rfl (by decide) (Nat.le_of_ble_eq_true rfl) (Nat.le_of_ble_eq_true rfl) dL_law_17 (fun am7 H7 hm7 hI7 => ?_)
  rw [h93] at hI7 hm7 ⊢
  obtain ⟨n7, en7⟩ : ∃ z, z = upN n3 9 (0 + 1) := ⟨_, rfl⟩
  obtain ⟨S7, eS7⟩ : ∃ z, z = up2 S2 9 0 (fun _ => 0) := ⟨_, rfl⟩
  rw [← en7, ← eS7] at hI7
  have h97 : 0 < n7 9 := by rw [en7, upN_s]; decide
  have hf7 : yFresh n7 S7 := by
    rw [en7, eS7]
    exact ⟨⟨hf2'.1.1, hf2'.1.2.1, hf2'.1.2.2.1, fun κ => (by unfold upN; split <;> first | omega | exact hf2'.1.2.2.2.1 κ), hf2'.1.2.2.2.2⟩, hf2'.2⟩
  have ea7 : am2 0 0 = am7 0 0 := (hm7 0 0 (by decide)).symm
  rw [ea7] at hl
  refine lv_astore_n (lv' := [(3, .ref (am7 9 0)), (2, .ref (amM 0 0)), (1, .ref (am7 0 0)), (0, .ref b)]) hx hb dL_law_19 rfl hl (by decide) rfl (fun ls hl => ?_)
  have hz7 : H5.size ≤ H7.size := hI7.2.2.1
  have h7 : ∀ κ i : Nat, i < n7 κ → (∃ κ' i' : Nat, i' < n3 κ' ∧ am7 κ i = am2 κ' i') ∨ H5.size ≤ am7 κ i := fun κ i hi => by
    rcases hI7.2.1 _ (Or.inl ⟨κ, i, hi, rfl⟩) with ⟨κ', i', h1, h2⟩ | h1
    · exact Or.inl ⟨κ', i', h1, h2⟩
    · exact Or.inr h1
  have hnM : ∀ κ i : Nat, i < nM κ → ¬ ts_A (n3, am2, S2) H5.size (amM κ i) := by
    rintro κ i hi (⟨κ', i', h1, h2⟩ | h1)
    · have a1 := hb5 κ i hi
      have a2 := hl3 κ' i' h1
      have a3 : amM κ i = am2 κ' i' := h2
      omega
    · have := hP5.lt hi
      omega
  have hM7 : ts_P TM D cM (nM, amM, M) H7 := ⟨fun κ i hi => (hP5.1 κ i hi).kept (hI7.2.2.2.1 _ (hP5.lt hi) (hnM κ i hi)), hP5.2⟩
  -- the array of doubles
  refine z_iconst hx hb dL_law_20 ?_
  refine va_newaK (atype := .double) hx hb (hts0 _ (List.mem_of_getElem? (i := 962) (by decide +kernel))) rfl dL_law_21 rfl (by decide) (N := 1) (by decide) (by decide) (Nat.le_of_ble_eq_true rfl) (Nat.le_of_ble_eq_true rfl) rfl (fun H8 cD e8 z8 o8 hAr hNm => ?_)
  have hKD : va_K D vwCl [(cD, .double)] s := ⟨hK.1, fun k q hq => by
    have hz : k < 1 := (List.getElem?_eq_some_iff.mp hq).1
    rw [show k = 0 by omega] at hq
    cases hq
    exact ⟨hAr, hNm⟩⟩
  refine W.eq (g2 := F0 m 23 ls [.ref H7.size]) rfl ?_
  refine lv_astore (lv' := [(4, .ref H7.size), (3, .ref (am7 9 0)), (2, .ref (amM 0 0)), (1, .ref (am7 0 0)), (0, .ref b)]) hx hb dL_law_23 hl (by decide) rfl (fun ls hl => ?_)
  refine z_iconst hx hb dL_law_25 ?_
  refine lv_istore (lv' := [(5, .int (iZ 0)), (4, .ref H7.size), (3, .ref (am7 9 0)), (2, .ref (amM 0 0)), (1, .ref (am7 0 0)), (0, .ref b)]) hx hb dL_law_26 hl (by decide) rfl (fun ls hl => ?_)
  have hJ : lJ D cX cM cD H7.size s (n7, am7, S7) (nM, amM, M) 0 H8 := by
    refine ⟨hI7.1.kept o8, hM7.kept o8, fun κ i hi => ⟨?_, ?_⟩, fun κ i hi => ⟨?_, ?_⟩, fun κ i κ' i' h1 h2 z => ?_, ⟨by omega, by omega, fun _ => 0, ?_, rfl⟩, by omega, fun q hq => ?_⟩
    · rcases h7 κ i hi with ⟨κ', i', h1, h2⟩ | h1
      · rw [show (n7, am7, S7).2.1 κ i = am2 κ' i' from h2]; exact hb2 κ' i' h1
      · exact Nat.le_trans (Nat.le_trans hz2 hz5) h1
    · exact Nat.ne_of_lt (hI7.1.lt hi)
    · exact Nat.le_trans hz2 (hb5 κ i hi)
    · exact Nat.ne_of_lt (hM7.lt hi)
    · have z1 : am7 κ i = amM κ' i' := z
      have a1 := hb5 κ' i' h2
      have a2 := hP5.lt h2
      rcases h7 κ i h1 with ⟨κ2, i2, h3, h4⟩ | h3
      · have a3 := hl3 κ2 i2 h3
        omega
      · omega
    · rw [e8]
      rfl
    · rw [o8 q (by omega), hI7.2.2.2.1 q (by omega) (fun z => ?_), ho5 q (by omega), ho2 q hq]
      rcases z with ⟨κ', i', h1, h2⟩ | h1
      · have a1 := hb2 κ' i' h1
        have a3 : q = am2 κ' i' := h2
        omega
      · omega
  have hE : lEnv p s m c #[Value.ref b] b L xs D cX cM cD := ⟨hx, hb, hml, hown, hts, hKX, hKM, hKD, hG, hN, hX, hbl⟩
  refine W.widen (k := 30 + 8 * 0) (n := 500 + 40 * 0) (Nat.le_of_ble_eq_true rfl) (Nat.le_of_ble_eq_true rfl) ?_
  refine law_loop l hfl hE hL (fun H ls => ?_) (L + 1) 0 H8 ls (by omega) (by omega) ⟨n7, am7, S7, nM, amM, M, 0, hJ, Sim.fresh hf7 hf5, hf5.1, h97, lv_sub hl [5, 4, 3, 2, 1, 0] rfl⟩
  refine lv_iconst (v := 1) hx hb dL_law_1705 (by decide) ?_
  exact lw_ret (d0 := s.drawn) (Drawn.sameBut.refl s.drawn lw_cs) hx hb hr hlocks dL_law_1706
set_option maxHeartbeats 4000000 in
theorem lw_walk (l : Launch) (hflags : l.flags = flags0) (b : Addr) (xs : List Int32) : MetFree l x (headSpec (Jvm.Cond.code x code maxLocals ret :: tables_1) room_1) (lw_P b xs) (fun _ _ _ _ _ => True) lw_Q := by
  refine MetFree.of_bodyS (code := code) (maxLocals := maxLocals) (ret := ret) (by decide) ?_ ?_
  · intro args s m h hn
    obtain ⟨meth, c, h1, h2, h3, h4, h5, h6, -, -⟩ := Cond.code_spec hn (atoms_spec (ws := Jvm.Cond.code x code maxLocals ret :: tables_1) h _ List.mem_cons_self)
    exact ⟨meth, c, h1, h2, h3, h4, h5, h6⟩
  · intro p e s m args below meth c s₁ B hml0 hP _
    obtain ⟨rfl, hx, hbd, hgv⟩ := hP
    obtain ⟨scr, harrAt, hlist, hof, hsmall⟩ := hx
    obtain ⟨hcb, hkn, -, -⟩ := State.arrayAt?_spec harrAt
    have hown : s.vm.findClass R_law = some m.cls := findClass_of_methodNamed B.named
    have hts0 : ∀ c ∈ (Jvm.Cond.code x code maxLocals ret :: tables_1), c.before #[Value.ref b] s = true := atoms_spec (ws := Jvm.Cond.code x code maxLocals ret :: tables_1) B.pre
    have hts : ∀ w ∈ lw_tbl, w.before #[Value.ref b] s = true := k2_hts_sels lw_privs (fun w hw => hts0 w (List.mem_cons_of_mem _ hw)) lw_privs_ok
    have hml : c.maxLocals = 9 := B.maxLocals_eq (hts0 _ List.mem_cons_self)
    have X₀ : Stand p l e room_1 s m #[Value.ref b] below meth c s₁ [] 0 0 := Stand.of_body B
    have hh0 : s₁.heap = s.heap := by rw [B.state]; rfl
    have hsz : scr.slots.size = xs.length := by rw [← Array.length_toList, hlist, List.length_map]
    have hval : ∀ j : Nat, j < xs.length → scr.slots[j]? = some (.int (xs.getD j 0)) := fun j hj => by
      rw [← Array.getElem?_toList, hlist]
      simp [hj]
    have hbl : b < s.heap.size := (Array.getElem?_eq_some_iff.mp hcb).1
    have hX : va_X b xs.length (fun j => xs.getD j 0) s s.heap := ⟨scr, hcb, hof, hkn, hsz, hval⟩
    have K : W p l e room_1 s m #[Value.ref b] below meth c s₁.heap [] 0 0 (lw_Z below #[Value.ref b] s) (entryFrame m ([Value.ref b] : List Value).toArray 9) := by
      rw [hh0]
      exact whole_start l hflags hbd ⟨B.exec, B.bytes, B.returns, hml, hown, hts, hX, hbl, B.notSynchronized, hgv⟩
    obtain ⟨t, a1, o, b1, b2, b3⟩ := K s₁ rfl X₀
    exact ⟨t, o, a1, b1, b2, b3⟩
theorem lw_pre_spec {args : Array Value} {s : State} (h : (Jvm.Cond.and given_1 narrow_1).before args s = true) (hr : rest_1_c.before args s = true) : ∃ (b : Addr) (xs : List Int32), lw_P b xs args s := by
  have hs := flat_of_before _ h
  have hq := flat_of_before _ hr
  have hc : (Cond.count 1).before args s = true := hs _ (by decide +kernel)
  have harr : (Cond.arrayOf (.arg 0) .int).before args s = true := hs _ (by decide +kernel)
  have hle : (Cond.le (.length (.arg 0)) (.int 2560)).before args s = true := hs _ (by decide +kernel)
  have hlen : (Cond.isInt (.length (.arg 0))).before args s = true := hq _ (by decide +kernel)
  have hall : (Cond.all (.arg 0) (.isInt (.elem (.arg 0) (.index 0)))).before args s = true := hq _ (by decide +kernel)
  obtain ⟨b, xs, hb, hx⟩ := State.ints_of_pre rfl harr hlen hall
  have hsm : xs.length < 2 ^ 31 := hx.choose_spec.2.2.2
  have hev : (Term.length (.arg 0)).eval args s none [] s = some (.int xs.length.toInt32) := hx.length_eval hb
  have hv := Cond.le_ints hev (show (Term.int 2560).eval args s none [] s = some (.int 2560) from rfl)
  have hd : xs.length.toInt32 ≤ 2560 := by
    simpa [Cond.before, Cond.holds, hv] using hle
  have hN : xs.length ≤ 2560 := (Int32.ofNat_le_ofNat hsm (by decide)).mp (show Int32.ofNat xs.length ≤ Int32.ofNat 2560 from hd)
  exact ⟨b, xs, Cond.one_arg hc (show args[0]? = some (.ref b) from hb), hx, hN, h⟩
theorem lw_comes (l : Launch) (hflags : l.flags = flags0) : Comes l x (Jvm.Cond.code x code maxLocals ret :: tables_1) room_1 (fun tb e args s => Calls_1 tb e args s ∧ rest_1 tb e args s ∧ Pre_1 tb e args s)
    (fun _ _ args s o t => lw_Q args s o t) := by
  intro p e ha hc hk s m args below hf hfit hheap happ hpre
  obtain ⟨b, xs, hP⟩ := lw_pre_spec hpre.2.2 hpre.2.1
  obtain ⟨k, o, h1, h2, h3, hQ⟩ := lw_walk l hflags b xs p e ha hc hk s m args below hf ((Spec.applies_iff_loose hf).mp happ).1 hP trivial
  exact ⟨k, o, h1, h2, h3, hQ⟩
theorem lw_frame {s t : State} {o : Outcome} {args : Array Value} (h : State.butDraws s t lw_cs (fun t1 => Framed s o t1 [] 762397 6708562)) :
    State.butDraws s t [Jvm.Choice.named "NaN.bits"] (fun t1 => Framed s o t1 (fieldLocs frame_1_writes args s ++ arrayLocs frame_1_arrays args s ++ staticLocs frame_1_statics s) 762397 6708562) := h
theorem lw_limb (L : Cond) (hL : ∀ (args : Array Value) (s t : State), L.after args s (.returned (some (.int 1))) t = true) :
    ArmFor flags0 classFile x code maxLocals ret World_1 tables_1 room_1 Calls_1 rest_1 Pre_1
      (fun tb e a s o t => postC L tb e a s o t ∧ State.butDraws s t [Jvm.Choice.named "NaN.bits"] (fun t1 => Framed s o t1 (fieldLocs frame_1_writes a s ++ arrayLocs frame_1_arrays a s ++ staticLocs frame_1_statics s) 762397 6708562)) := by
  intro l hflags _ _ p e ha hc hk s m args below hf hfit hheap happ hpre
  obtain ⟨k, o, h1, h2, h3, rfl, hF⟩ := lw_comes l hflags p e ha hc hk s m args below hf hfit hheap happ hpre
  exact ⟨k, _, h1, h2, h3, hL args s _, lw_frame hF⟩
theorem i_vc : Claimed_1_1 ∧ Claimed_1_2 := ⟨lw_limb limb_1_1 (fun args s t => by simp [limb_1_1, Cond.after, Cond.holds, Cond.value]), lw_limb limb_1_2 (fun args s t => Cond.after_iff.mpr (by
  first | (rw [show limb_1_2 = Cond.eq .result (.int 1) from rfl, Cond.eq_ints (x := 1) (y := 1) rfl rfl]; simp; done) | (simp [limb_1_2, Cond.value, Term.eval]; done)))⟩
