/-! The store's start, the loop. -/
theorem no11 : ∀ κ k : Nat, ¬ ts_ty TX κ k = some 11 := fun κ k ht => match κ, ht with
  | 0, ht => absurd (List.mem_of_getElem? ht) (by decide)
  | 1, ht => absurd (List.mem_of_getElem? ht) (by decide)
  | 2, ht => by cases ht
  | 3, ht => by cases ht
  | 4, ht => by cases ht
  | 5, ht => absurd (List.mem_of_getElem? ht) (by decide)
  | 6, ht => by cases ht
  | 7, ht => absurd (List.mem_of_getElem? ht) (by decide)
  | 8, ht => absurd (List.mem_of_getElem? ht) (by decide)
  | 9, ht => by cases ht
  | κ + 10, ht => absurd (List.mem_of_getElem? ht) (by decide)
theorem upN_9 {n : Nat → Nat} {κ i : Nat} (h : i < upN n 9 0 κ) : i < n κ := by
  unfold upN at h
  split at h
  · omega
  · exact h
theorem ts_P.forget9 {D : va_G} {cX : Nat → ClassId} {n : Nat → Nat} {am : ts_Am} {S : ts_St} {H : Heap} (h : ts_P TX D cX (n, am, S) H) : ts_P TX D cX (upN n 9 0, am, S) H := by
  refine ⟨fun κ i hi => h.1 κ i (upN_9 hi), fun κ i κ' i' h1 h2 => h.2.1 κ i κ' i' (upN_9 h1) (upN_9 h2), h.2.2.1, fun κ i k t hi ht => ?_⟩
  have a := h.2.2.2 κ i k t (upN_9 hi) ht
  have ht9 : ¬ t = 9 := fun q => by subst q; exact no11 κ k ht
  show -1 ≤ S κ i k ∧ S κ i k < ((upN n 9 0 t : Nat) : Int)
  rw [upN_r ht9]
  exact a
theorem yFresh.forget9 {n : Nat → Nat} {S : ts_St} (h : yFresh n S) : yFresh (upN n 9 0) S :=
  ⟨⟨h.1.1, h.1.2.1, h.1.2.2.1, fun κ => (by unfold upN; split <;> first | omega | exact h.1.2.2.2.1 κ), h.1.2.2.2.2⟩, h.2⟩
theorem Sim.fresh {n nM : Nat → Nat} {S M : ts_St} (h : yFresh n S) (g : mFresh nM M) : lSim n S M 0 := by
  obtain ⟨hW, ⟨n5, n6, n7, n8⟩, ⟨a5, a6, a7, a8, a9⟩, a10, a11, a12⟩ := h
  obtain ⟨gW, ⟨b0, b5, b8, b21, b22, b23, b24⟩, ⟨b16, b17, b18, b19, b20⟩, z⟩ := g
  refine ⟨⟨⟨hW, by omega, ⟨by omega, fun j hj => by omega⟩, ⟨fun i hi => by omega, fun j hj => by omega⟩⟩, ⟨⟨by omega, by omega, by omega⟩, by omega, by omega, by omega, by omega, by omega, by omega, by omega, by omega⟩, ⟨fun i hi => by omega, fun i _ => ⟨z 1 (by decide) (by decide) i, z 2 (by decide) (by decide) i, z 3 (by decide) (by decide) i⟩, fun i k hi => by omega⟩, ⟨fun d hd => by omega, fun d _ => z 6 (by decide) (by decide) d⟩, ⟨fun j hj => by omega, fun j _ => ⟨z 9 (by decide) (by decide) j, z 10 (by decide) (by decide) j, z 11 (by decide) (by decide) j, z 12 (by decide) (by decide) j, z 13 (by decide) (by decide) j, z 14 (by decide) (by decide) j⟩⟩, ⟨fun j hj => by omega, fun x => by rw [z 15 (by decide) (by decide) x]; decide⟩⟩, by omega, by omega, ?_⟩
  rw [n5]
  exact (by decide : (0 : Int) ≤ 6)
theorem ts_P.kept {tab : ts_Tab} {D : va_G} {cA : Nat → ClassId} {u : ts_W} {H H1 : Heap} (h : ts_P tab D cA u H) (hk : ∀ q : Nat, q < H.size → H1[q]? = H[q]?) : ts_P tab D cA u H1 :=
  ⟨fun κ i hi => (h.1 κ i hi).kept (hk _ (h.1 κ i hi).lt), h.2⟩
theorem ts_P.none (tab : ts_Tab) (D : va_G) (cA : Nat → ClassId) (H : Heap) : ts_P tab D cA (fun _ => 0, fun _ _ => 0, fun _ _ _ => 0) H :=
  ⟨fun κ i hi => absurd hi (Nat.not_lt_zero _), fun κ i κ' i' hi => absurd hi (Nat.not_lt_zero _), fun κ i k _ => ts_bd_0, fun κ i k t hi => absurd hi (Nat.not_lt_zero _)⟩
theorem ts_I.none (tab : ts_Tab) (D : va_G) (cA : Nat → ClassId) (H : Heap) : ts_I tab D cA (fun q => H.size ≤ q) H (fun _ => 0, fun _ _ => 0, fun _ _ _ => 0) H [] :=
  ⟨ts_P.none tab D cA H, fun q hq => hq.elim (fun ⟨κ, i, hi, _⟩ => absurd hi (Nat.not_lt_zero _)) id, va_S.rf⟩
section LAWN
variable {p : Program} {l : Launch} {e : Env} {R : Room} {s : State} {m : MethodId} {args : Array Value} {below : List Frame} {meth : Method} {c : Code} {H : Heap} {locs : List Loc} {cells slots : Nat} {Q : State → Prop} {cc : ByteArray} {pc : Nat} {ls : Array Slot} {rest : List Value}
variable {tab : ts_Tab} {D : va_G} {cA : Nat → ClassId} {A : Nat → Prop} {H0 : Heap} {n : Nat → Nat} {am : ts_Am} {S : ts_St} {κ len : Nat}
/-- 'newarray' of longs -/
theorem znal {z : Int} (hexec : p.tables.exec = Jvm.exec) (hb : c.code = cc) (harr : (Cond.arrayClass .long).before args s = true) (hK : ts_K tab D cA s) (hI : ts_I tab D cA A H0 (n, am, S) H locs) (htab : tab κ = .inr (len, 1, .long)) (hz : z = (len : Int)) (hlen : len < 1000000) (hcells : cells + 1 ≤ R.cells) (hslots : slots + len ≤ R.slots) (hdg : decode cc pc = .ok (.newarray .long, 2))
    (kk : ∀ (am' : ts_Am) (H1 : Heap), (∀ a b : Nat, ¬ (a = κ ∧ b = n κ) → am' a b = am a b) → ts_I tab D cA A H0 (upN n κ (n κ + 1), am', up2 S κ (n κ) (fun _ => 0)) H1 locs → W p l e R s m args below meth c H1 locs (cells + 1) (slots + len) Q (F0 m (pc + 2) ls (.ref (am' κ (n κ)) :: rest))) : W p l e R s m args below meth c H locs cells slots Q (F0 m pc ls (.int (iZ z) :: rest)) := by
  subst hz
  have hR : iR (len : Int) := ⟨by omega, by omega⟩
  have hneg : ¬ iZ (len : Int) < 0 := fun q => by
    have := (iZ_lt (b := 0) hR (by decide)).mp (by rw [iZ_0]; exact q)
    omega
  refine va_newaK (atype := .long) hexec hb harr rfl hdg rfl hneg (by rw [iZ_cl hR]; rfl) (by show len * 8 ≤ 536870912; omega) hcells hslots rfl fun H1 cA1 e1 z1 o1 hAr hNm => ?_
  have hcA : cA1 = cA κ := ts_RA_eq (ty := .long) hNm (hK.2 κ _ htab).1.2
  subst hcA
  have key := kk (upA am κ (n κ) H.size) H1 (fun a b q => upA_r q) (hI.grow (f0 := fun _ => 0) ?_ z1 o1 (fun _ => ts_bd_0) (fun k t q => ?_))
  · rw [upA_s] at key
    exact key
  · rw [ts_E_arr htab, up2_s]
    show H1[H.size]? = some (vp_cell (cA κ) (len, .inr (.inl (fun _ => lZ 0))))
    rw [vp_cell_l, e1]
    rfl
  · rw [ts_ty_arr htab] at q
    cases q
end LAWN
theorem lSim.mono {n : Nat → Nat} {C M : ts_St} {q : Nat} (h : lSim n C M q) : lSim n C M (q + 1) := ⟨h.1, by have := h.2.1; omega, by have := h.2.2.1; omega, h.2.2.2⟩
set_option maxHeartbeats 4000000 in
set_option maxRecDepth 100000 in
theorem law_loop {p : Program} {e : Env} {s : State} {m : MethodId} {below : List Frame} {meth : Method} {c : Code} {args : Array Value} {Q : State → Prop} {b L : Nat} {xs : Nat → Int32} {D : va_G} {cX cM : Nat → ClassId} {cD : ClassId} {oD : Nat} (l : Launch) (hfl : l.stackTraces = false) (hE : lEnv p s m c args b L xs D cX cM cD) (hL : L ≤ 2560)
    (hend : ∀ (H : Heap) (ls : Array Slot), W p l e room_1 s m args below meth c H [] 762397 6708562 Q (F0 m 1705 ls [])) :
    ∀ (k q : Nat) (H : Heap) (ls : Array Slot), 5 * (q : Int) ≤ (L : Int) → (L : Int) - 5 * (q : Int) < (k : Int) → lInv D cX cM cD oD s b (5 * (q : Int)) q H ls → W p l e room_1 s m args below meth c H [] (30 + 8 * q) (500 + 40 * q) Q (F0 m 28 ls []) := by
  intro k
  induction k with
  | zero => intro q H ls h1 h2; omega
  | succ k ih =>
    intro q H ls h1 h2 hinv
    obtain ⟨hx, hb, hml, hown, hts, hKX, hKM, hKD, hG, hN, hX, hbl⟩ := id hE
    obtain ⟨n, am, S, nM, amM, M, v, hJ, hs0, hW, h9, hl⟩ := id hinv
    refine lv_iload hx hb dL_law_28 (lv_at hl 5 rfl) ?_
    refine lv_aload_n hx hb dL_law_30 rfl (lv_at hl 0 rfl) ?_
    refine lj_len hx hb hX hbl hJ dL_law_31 ?_
    refine z_iconst hx hb dL_law_32 ?_
    refine z_isub hx hb dL_law_33 ?_
    refine z_icmp_gt (tgt := 1705) hx hb dL_law_34 (by decide) (by omega) (by omega) (fun hgt => ?_) (fun hle => ?_)
    · exact W.widen (by omega) (by omega) (hend H ls)
    · refine lv_aload_n hx hb dL_law_37 rfl (lv_at hl 0 rfl) ?_
      refine lv_iload hx hb dL_law_38 (lv_at hl 5 rfl) ?_
      refine lj_rd hx hb hX hbl hJ (by omega) (by omega) (by omega) dL_law_40 ?_
      refine z_bipush hx hb dL_law_41 (by decide) ?_
      refine lv_iand hx hb dL_law_43 ?_
      obtain ⟨w, ew⟩ : ∃ w : Int32, w = iZ (xi xs (5 * (q : Int))) &&& iZ 31 := ⟨_, rfl⟩
      rw [← ew]
      clear ew
      have hq : q < 600 := by omega
      have hi : 0 ≤ 5 * (q : Int) ∧ 5 * (q : Int) + 5 ≤ (L : Int) ∧ L ≤ 2560 := by omega
      have hc : (30 + 8 * q) + 8 ≤ 762397 := by omega
      have hs : (500 + 40 * q) + 40 ≤ 6708562 := by omega
      have kk : ∀ (H : Heap) (ls : Array Slot), lInv D cX cM cD oD s b (5 * (q : Int)) (q + 1) H ls → W p l e room_1 s m args below meth c H [] ((30 + 8 * q) + 8) ((500 + 40 * q) + 40) Q (F0 m 1699 ls []) := by
        clear hJ hs0 hW h9 hl hinv
        clear n am S nM amM M v
        intro H ls hinv
        obtain ⟨n, am, S, nM, amM, M, v, hJ, hs0, hW, h9, hl⟩ := hinv
        refine z_iinc (k := 5) (lv' := [(5, .int (iZ (5 * (q : Int) + 5))), (0, .ref b), (1, .ref (am 0 0)), (2, .ref (amM 0 0)), (3, .ref (am 9 0)), (4, .ref oD)]) hx hb dL_law_1699 hl rfl (by decide) rfl (fun ls hl => ?_)
        refine lv_goto (tgt := 28) hx hb dL_law_1702 (by decide) ?_
        have e5 : 5 * (q : Int) + 5 = 5 * ((q + 1 : Nat) : Int) := by push_cast; omega
        rw [e5] at hl
        exact W.widen (by omega) (by omega) (ih (q + 1) H ls (by push_cast; omega) (by push_cast; omega) ⟨n, am, S, nM, amM, M, v, hJ, hs0, hW, h9, lv_sub hl [1, 2, 3, 4, 5, 0] rfl⟩)
      by_cases ht : w.toInt < 0 ∨ 26 < w.toInt
      · refine lv_tableOut (tgt := 1699) hx hb dL_law_44 ht (by decide) ?_
        exact W.widen (by omega) (by omega) (kk H ls ⟨n, am, S, nM, amM, M, v, hJ, hs0.mono, hW, h9, hl⟩)
      · have hk : w.toInt = 0 ∨ w.toInt = 1 ∨ w.toInt = 2 ∨ w.toInt = 3 ∨ w.toInt = 4 ∨ w.toInt = 5 ∨ w.toInt = 6 ∨ w.toInt = 7 ∨ w.toInt = 8 ∨ w.toInt = 9 ∨ w.toInt = 10 ∨ w.toInt = 11 ∨ w.toInt = 12 ∨ w.toInt = 13 ∨ w.toInt = 14 ∨ w.toInt = 15 ∨ w.toInt = 16 ∨ w.toInt = 17 ∨ w.toInt = 18 ∨ w.toInt = 19 ∨ w.toInt = 20 ∨ w.toInt = 21 ∨ w.toInt = 22 ∨ w.toInt = 23 ∨ w.toInt = 24 ∨ w.toInt = 25 ∨ w.toInt = 26 := by omega
        rcases hk with hk | hk | hk | hk | hk | hk | hk | hk | hk | hk | hk | hk | hk | hk | hk | hk | hk | hk | hk | hk | hk | hk | hk | hk | hk | hk | hk
        · refine lv_tableIn (off := 124) (tgt := 168) hx hb dL_law_44 (by omega) (by omega) (by rw [hk]; rfl) (by decide) ?_
          exact law_addLane l hfl hE hq hi hinv hc hs kk
        · refine lv_tableIn (off := 208) (tgt := 252) hx hb dL_law_44 (by omega) (by omega) (by rw [hk]; rfl) (by decide) ?_
          exact law_addDoor l hfl hE hq hi hinv hc hs kk
        · refine lv_tableIn (off := 266) (tgt := 310) hx hb dL_law_44 (by omega) (by omega) (by rw [hk]; rfl) (by decide) ?_
          exact law_setTolerance l hfl hE hq hi hinv hc hs kk
        · refine lv_tableIn (off := 322) (tgt := 366) hx hb dL_law_44 (by omega) (by omega) (by rw [hk]; rfl) (by decide) ?_
          exact law_setCharges l hfl hE hq hi hinv hc hs kk
        · refine lv_tableIn (off := 414) (tgt := 458) hx hb dL_law_44 (by omega) (by omega) (by rw [hk]; rfl) (by decide) ?_
          exact law_book l hfl hE hq hi hinv hc hs kk
        · refine lv_tableIn (off := 496) (tgt := 540) hx hb dL_law_44 (by omega) (by omega) (by rw [hk]; rfl) (by decide) ?_
          exact law_arrive l hfl hE hq hi hinv hc hs kk
        · refine lv_tableIn (off := 564) (tgt := 608) hx hb dL_law_44 (by omega) (by omega) (by rw [hk]; rfl) (by decide) ?_
          exact law_state l hfl hE hq hi hinv hc hs kk
        · refine lv_tableIn (off := 620) (tgt := 664) hx hb dL_law_44 (by omega) (by omega) (by rw [hk]; rfl) (by decide) ?_
          exact law_punctuality l hfl hE hq hi hinv hc hs kk
        · refine lv_tableIn (off := 676) (tgt := 720) hx hb dL_law_44 (by omega) (by omega) (by rw [hk]; rfl) (by decide) ?_
          exact law_nextBooked l hfl hE hq hi hinv hc hs kk
        · refine lv_tableIn (off := 720) (tgt := 764) hx hb dL_law_44 (by omega) (by omega) (by rw [hk]; rfl) (by decide) ?_
          exact law_shift l hfl hE hq hi hinv hc hs kk
        · refine lv_tableIn (off := 788) (tgt := 832) hx hb dL_law_44 (by omega) (by omega) (by rw [hk]; rfl) (by decide) ?_
          exact law_dock l hfl hE hq hi hinv hc hs kk
        · refine lv_tableIn (off := 856) (tgt := 900) hx hb dL_law_44 (by omega) (by omega) (by rw [hk]; rfl) (by decide) ?_
          exact law_leave l hfl hE hq hi hinv hc hs kk
        · refine lv_tableIn (off := 912) (tgt := 956) hx hb dL_law_44 (by omega) (by omega) (by rw [hk]; rfl) (by decide) ?_
          exact law_laneOf l hfl hE hq hi hinv hc hs kk
        · refine lv_tableIn (off := 968) (tgt := 1012) hx hb dL_law_44 (by omega) (by omega) (by rw [hk]; rfl) (by decide) ?_
          exact law_blockers l hfl hE hq hi hinv hc hs kk
        · refine lv_tableIn (off := 1024) (tgt := 1068) hx hb dL_law_44 (by omega) (by omega) (by rw [hk]; rfl) (by decide) ?_
          exact law_trailerAt l hfl hE hq hi hinv hc hs kk
        · refine lv_tableIn (off := 1092) (tgt := 1136) hx hb dL_law_44 (by omega) (by omega) (by rw [hk]; rfl) (by decide) ?_
          exact law_freeDoor l hfl hE hq hi hinv hc hs kk
        · refine lv_tableIn (off := 1148) (tgt := 1192) hx hb dL_law_44 (by omega) (by omega) (by rw [hk]; rfl) (by decide) ?_
          exact law_fewestMoves l hfl hE hq hi hinv hc hs kk
        · refine lv_tableIn (off := 1204) (tgt := 1248) hx hb dL_law_44 (by omega) (by omega) (by rw [hk]; rfl) (by decide) ?_
          exact law_fewestByOrders l hfl hE hq hi hinv hc hs kk
        · refine lv_tableIn (off := 1260) (tgt := 1304) hx hb dL_law_44 (by omega) (by omega) (by rw [hk]; rfl) (by decide) ?_
          exact law_pass l hfl hE hq hi hinv hc hs kk
        · refine lv_tableIn (off := 1316) (tgt := 1360) hx hb dL_law_44 (by omega) (by omega) (by rw [hk]; rfl) (by decide) ?_
          exact law_time l hfl hE hq hi hinv hc hs kk
        · refine lv_tableIn (off := 1329) (tgt := 1373) hx hb dL_law_44 (by omega) (by omega) (by rw [hk]; rfl) (by decide) ?_
          exact law_waited l hfl hE hq hi hinv hc hs kk
        · refine lv_tableIn (off := 1385) (tgt := 1429) hx hb dL_law_44 (by omega) (by omega) (by rw [hk]; rfl) (by decide) ?_
          exact law_charge l hfl hE hq hi hinv hc hs kk
        · refine lv_tableIn (off := 1441) (tgt := 1485) hx hb dL_law_44 (by omega) (by omega) (by rw [hk]; rfl) (by decide) ?_
          exact law_chargeByHours l hfl hE hq hi hinv hc hs kk
        · refine lv_tableIn (off := 1497) (tgt := 1541) hx hb dL_law_44 (by omega) (by omega) (by rw [hk]; rfl) (by decide) ?_
          exact law_moves l hfl hE hq hi hinv hc hs kk
        · refine lv_tableIn (off := 1510) (tgt := 1554) hx hb dL_law_44 (by omega) (by omega) (by rw [hk]; rfl) (by decide) ?_
          exact law_charged l hfl hE hq hi hinv hc hs kk
        · refine lv_tableIn (off := 1524) (tgt := 1568) hx hb dL_law_44 (by omega) (by omega) (by rw [hk]; rfl) (by decide) ?_
          exact law_usedShare l hfl hE hq hi hinv hc hs kk
        · refine lv_tableIn (off := 1590) (tgt := 1634) hx hb dL_law_44 (by omega) (by omega) (by rw [hk]; rfl) (by decide) ?_
          exact law_meanWaiting l hfl hE hq hi hinv hc hs kk
