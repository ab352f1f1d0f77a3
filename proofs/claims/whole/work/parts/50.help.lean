/-! The contracts of the law's helpers. -/
set_option maxHeartbeats 4000000 in
set_option maxRecDepth 100000 in
theorem c_L_addLane (l : Launch) (hfl : l.stackTraces = false) (D : va_G) (cA : Nat → ClassId) (n : Nat → Nat) (am : ts_Am) (S : ts_St) (sz : Nat) (a b : Int) (hW : cW n S) (h65 : n 6 = n 5) (ha0 : iR a) (hb0 : 0 ≤ b ∧ b < 2) (h9 : 0 < n 9) : Met l yL_addLane wsL_addLane ({ frames := 7, cells := 2, slots := 8, locals := 112 } : Room) (va_Pc [.ref (am 0 0), .int (iZ a), .int (iZ b), .ref (am 9 0)] (zPH TX D cA (n, am, S) sz)) (zQi TX D cA (n, am, S) sz (fun k u => (k = 0 ∧ ((1 ≤ a ∧ a ≤ 3) ∧ n 5 < 4) ∧ ∃ am', amK n am am' ∧ u = (upN (upN n 5 (n 5 + 1)) 6 (n 5 + 1), am', up3 (yAddL n S a b) 9 0 0 ((n 5 : Int)))) ∨ (k = 1 ∧ (¬ (1 ≤ a ∧ a ≤ 3)) ∧ u = (n, am, S)) ∨ (k = 2 ∧ ((1 ≤ a ∧ a ≤ 3) ∧ ¬ n 5 < 4) ∧ u = (n, am, S)))) 2 8 (ts_A (n, am, S) sz) := by
  refine zMh_of (by decide) rfl (Nat.le_of_ble_eq_true rfl) ?_
  intro p e s m below meth c hx hb hr hts hown hlocks hml htb hK hG hN hsz H locs hI ls hl
  subst hsz
  have hown : s.vm.findClass RL = some m.cls := hown
  have hl : lv_has ls 5 [(0, .ref (am 0 0)), (1, .int (iZ a)), (2, .int (iZ b)), (3, .ref (am 9 0))] := hl
  have hvz : 0 < n 0 := hW.1.1
  refine lv_aload_n hx hb dL_addLane_0 rfl (lv_at hl 3 rfl) ?_
  refine z_iconst hx hb dL_addLane_1 ?_
  refine lv_aload_n hx hb dL_addLane_2 rfl (lv_at hl 0 rfl) ?_
  refine lv_iload_n hx hb dL_addLane_3 rfl (lv_at hl 1 rfl) ?_
  refine lv_iload_n hx hb dL_addLane_4 rfl (lv_at hl 2 rfl) ?_
  refine zxh_i (zxV (As := [.int (iZ a), .int (iZ b)]) (rest := [.int (iZ 0), .ref (am 9 0)]) (κ := 0) (i := 0) ⟨hx, hb, hml, hown, hts⟩ (c_X4_addLane l hfl D cA n am S H.size a b hW h65 ha0 hb0) (cwV 2 hts gL_addLane_X4_addLane rfl rfl rfl (by decide +kernel) ⟨Nat.le_of_ble_eq_true rfl, Nat.le_of_ble_eq_true rfl⟩) hK hI hG hvz rfl rfl rfl hl.1 rfl (Nat.le_of_ble_eq_true rfl) dL_addLane_5 ⟨Nat.le_of_ble_eq_true rfl, Nat.le_of_ble_eq_true rfl⟩) hI (fun E ce q H locs hpx hI hcell hcv hcl => ?_) (fun z u9 H locs hz hp hI => ?_)
  · rcases hpx with ⟨rfl, hpx⟩ | ⟨rfl, hpx⟩
    · refine vx_catch hown [] ⟨0, 10, 13, 13⟩ [⟨0, 10, 17, 15⟩] (htb.trans rfl) (fun _ h => absurd h List.not_mem_nil) rfl (by decide) (hts (.classLink RL 13 "java/lang/IllegalArgumentException") (by decide +kernel)) (va_Nw.use rfl (hG.2.2.2.1 _ xC_IAE)) hcell hcv hcl ?_
      refine lv_astore (lv' := [(4, .ref q), (0, .ref (am 0 0)), (1, .int (iZ a)), (2, .int (iZ b)), (3, .ref (am 9 0))]) hx hb dL_addLane_13 hl (by decide) rfl (fun ls hl => ?_)
      refine z_iconst hx hb dL_addLane_15 ?_
      exact ze_i (u' := (n, am, S)) (z := 1) hx hb hr rfl hI (by decide) (Or.inr (Or.inl ⟨rfl, hpx, rfl⟩)) (Nat.le_of_ble_eq_true rfl) (Nat.le_of_ble_eq_true rfl) dL_addLane_16 hlocks
    · refine vx_catch hown [⟨0, 10, 13, 13⟩] ⟨0, 10, 17, 15⟩ [] (htb.trans rfl) (List.forall_mem_cons.mpr ⟨Or.inr ⟨by decide, _, hts (.classLink RL 13 "java/lang/IllegalArgumentException") (by decide +kernel), hN (xN_ISE, xN_IAE) (by decide +kernel)⟩, fun _ h => absurd h List.not_mem_nil⟩) rfl (by decide) (hts (.classLink RL 15 "java/lang/IllegalStateException") (by decide +kernel)) (va_Nw.use rfl (hG.2.2.2.1 _ xC_ISE)) hcell hcv hcl ?_
      refine lv_astore (lv' := [(4, .ref q), (0, .ref (am 0 0)), (1, .int (iZ a)), (2, .int (iZ b)), (3, .ref (am 9 0))]) hx hb dL_addLane_17 hl (by decide) rfl (fun ls hl => ?_)
      refine z_iconst hx hb dL_addLane_19 ?_
      exact ze_i (u' := (n, am, S)) (z := 2) hx hb hr rfl hI (by decide) (Or.inr (Or.inr ⟨rfl, hpx, rfl⟩)) (Nat.le_of_ble_eq_true rfl) (Nat.le_of_ble_eq_true rfl) dL_addLane_20 hlocks
  · obtain ⟨hc0, rfl, am', hk, rfl⟩ := hp
    rw [← hk 9 0 h9]
    refine z_i2l hx hb dL_addLane_8 hz ?_
    refine zs_l (κ := 9) (i := 0) hx hb hK hI (by simp only [upN]; exact h9) rfl (by decide) (by decide) (by decide) dL_addLane_9 (fun H locs hI => ?_)
    refine lv_goto (tgt := 21) hx hb dL_addLane_10 (by decide) ?_
    refine z_iconst hx hb dL_addLane_21 ?_
    exact ze_i (u' := ((upN (upN n 5 (n 5 + 1)) 6 (n 5 + 1)), am', up3 (yAddL n S a b) 9 0 0 ((n 5 : Int)))) (z := 0) hx hb hr rfl hI (by decide) (Or.inl ⟨rfl, hc0, am', hk, rfl⟩) (Nat.le_of_ble_eq_true rfl) (Nat.le_of_ble_eq_true rfl) dL_addLane_22 hlocks
set_option maxHeartbeats 4000000 in
set_option maxRecDepth 100000 in
theorem c_L_addDoor (l : Launch) (hfl : l.stackTraces = false) (D : va_G) (cA : Nat → ClassId) (n : Nat → Nat) (am : ts_Am) (S : ts_St) (sz : Nat) (a : Int) (hW : cW n S) (ha0 : 0 ≤ a ∧ a < 65536) (h9 : 0 < n 9) : Met l yL_addDoor wsL_addDoor ({ frames := 7, cells := 1, slots := 6, locals := 112 } : Room) (va_Pc [.ref (am 0 0), .int (iZ a), .ref (am 9 0)] (zPH TX D cA (n, am, S) sz)) (zQi TX D cA (n, am, S) sz (fun k u => (k = 0 ∧ ((a = 100 ∨ a = 99 ∨ a = 98) ∧ n 7 < 4) ∧ ∃ am', amK n am am' ∧ u = (upN n 7 (n 7 + 1), am', up3 (yAddD n S a) 9 0 0 ((n 7 : Int)))) ∨ (k = 1 ∧ (¬ (a = 100 ∨ a = 99 ∨ a = 98)) ∧ u = (n, am, S)) ∨ (k = 2 ∧ ((a = 100 ∨ a = 99 ∨ a = 98) ∧ ¬ n 7 < 4) ∧ u = (n, am, S)))) 1 6 (ts_A (n, am, S) sz) := by
  refine zMh_of (by decide) rfl (Nat.le_of_ble_eq_true rfl) ?_
  intro p e s m below meth c hx hb hr hts hown hlocks hml htb hK hG hN hsz H locs hI ls hl
  subst hsz
  have hown : s.vm.findClass RL = some m.cls := hown
  have hl : lv_has ls 4 [(0, .ref (am 0 0)), (1, .int (iZ a)), (2, .ref (am 9 0))] := hl
  have hvz : 0 < n 0 := hW.1.1
  refine lv_aload_n hx hb dL_addDoor_0 rfl (lv_at hl 2 rfl) ?_
  refine z_iconst hx hb dL_addDoor_1 ?_
  refine lv_aload_n hx hb dL_addDoor_2 rfl (lv_at hl 0 rfl) ?_
  refine lv_iload_n hx hb dL_addDoor_3 rfl (lv_at hl 1 rfl) ?_
  refine zxh_i (zxV (As := [.int (iZ a)]) (rest := [.int (iZ 0), .ref (am 9 0)]) (κ := 0) (i := 0) ⟨hx, hb, hml, hown, hts⟩ (c_X4_addDoor l hfl D cA n am S H.size a hW ha0) (cwV 1 hts gL_addDoor_X4_addDoor rfl rfl rfl (by decide +kernel) ⟨Nat.le_of_ble_eq_true rfl, Nat.le_of_ble_eq_true rfl⟩) hK hI hG hvz rfl rfl rfl hl.1 rfl (Nat.le_of_ble_eq_true rfl) dL_addDoor_4 ⟨Nat.le_of_ble_eq_true rfl, Nat.le_of_ble_eq_true rfl⟩) hI (fun E ce q H locs hpx hI hcell hcv hcl => ?_) (fun z u9 H locs hz hp hI => ?_)
  · rcases hpx with ⟨rfl, hpx⟩ | ⟨rfl, hpx⟩
    · refine vx_catch hown [] ⟨0, 9, 12, 13⟩ [⟨0, 9, 15, 15⟩] (htb.trans rfl) (fun _ h => absurd h List.not_mem_nil) rfl (by decide) (hts (.classLink RL 13 "java/lang/IllegalArgumentException") (by decide +kernel)) (va_Nw.use rfl (hG.2.2.2.1 _ xC_IAE)) hcell hcv hcl ?_
      refine lv_astore_n (lv' := [(3, .ref q), (0, .ref (am 0 0)), (1, .int (iZ a)), (2, .ref (am 9 0))]) hx hb dL_addDoor_12 rfl hl (by decide) rfl (fun ls hl => ?_)
      refine z_iconst hx hb dL_addDoor_13 ?_
      exact ze_i (u' := (n, am, S)) (z := 1) hx hb hr rfl hI (by decide) (Or.inr (Or.inl ⟨rfl, hpx, rfl⟩)) (Nat.le_of_ble_eq_true rfl) (Nat.le_of_ble_eq_true rfl) dL_addDoor_14 hlocks
    · refine vx_catch hown [⟨0, 9, 12, 13⟩] ⟨0, 9, 15, 15⟩ [] (htb.trans rfl) (List.forall_mem_cons.mpr ⟨Or.inr ⟨by decide, _, hts (.classLink RL 13 "java/lang/IllegalArgumentException") (by decide +kernel), hN (xN_ISE, xN_IAE) (by decide +kernel)⟩, fun _ h => absurd h List.not_mem_nil⟩) rfl (by decide) (hts (.classLink RL 15 "java/lang/IllegalStateException") (by decide +kernel)) (va_Nw.use rfl (hG.2.2.2.1 _ xC_ISE)) hcell hcv hcl ?_
      refine lv_astore_n (lv' := [(3, .ref q), (0, .ref (am 0 0)), (1, .int (iZ a)), (2, .ref (am 9 0))]) hx hb dL_addDoor_15 rfl hl (by decide) rfl (fun ls hl => ?_)
      refine z_iconst hx hb dL_addDoor_16 ?_
      exact ze_i (u' := (n, am, S)) (z := 2) hx hb hr rfl hI (by decide) (Or.inr (Or.inr ⟨rfl, hpx, rfl⟩)) (Nat.le_of_ble_eq_true rfl) (Nat.le_of_ble_eq_true rfl) dL_addDoor_17 hlocks
  · obtain ⟨hc0, rfl, am', hk, rfl⟩ := hp
    rw [← hk 9 0 h9]
    refine z_i2l hx hb dL_addDoor_7 hz ?_
    refine zs_l (κ := 9) (i := 0) hx hb hK hI (by simp only [upN]; exact h9) rfl (by decide) (by decide) (by decide) dL_addDoor_8 (fun H locs hI => ?_)
    refine lv_goto (tgt := 18) hx hb dL_addDoor_9 (by decide) ?_
    refine z_iconst hx hb dL_addDoor_18 ?_
    exact ze_i (u' := ((upN n 7 (n 7 + 1)), am', up3 (yAddD n S a) 9 0 0 ((n 7 : Int)))) (z := 0) hx hb hr rfl hI (by decide) (Or.inl ⟨rfl, hc0, am', hk, rfl⟩) (Nat.le_of_ble_eq_true rfl) (Nat.le_of_ble_eq_true rfl) dL_addDoor_19 hlocks
set_option maxHeartbeats 4000000 in
set_option maxRecDepth 100000 in
theorem c_L_setTolerance (l : Launch) (hfl : l.stackTraces = false) (D : va_G) (cA : Nat → ClassId) (n : Nat → Nat) (am : ts_Am) (S : ts_St) (sz : Nat) (a : Int) (hW : cW n S) (ha0 : iR a) (h9 : 0 < n 9) : Met l yL_setTolerance wsL_setTolerance ({ frames := 7, cells := 1, slots := 6, locals := 112 } : Room) (va_Pc [.ref (am 0 0), .int (iZ a), .ref (am 9 0)] (zPH TX D cA (n, am, S) sz)) (zQi TX D cA (n, am, S) sz (fun k u => (k = 0 ∧ (0 ≤ a ∧ a ≤ 9) ∧ u = (n, am, up3 (up3 S 0 0 5 a) 9 0 0 (S 0 0 5))) ∨ (k = 1 ∧ (¬ (0 ≤ a ∧ a ≤ 9)) ∧ u = (n, am, S)))) 1 6 (ts_A (n, am, S) sz) := by
  refine zMh_of (by decide) rfl (Nat.le_of_ble_eq_true rfl) ?_
  intro p e s m below meth c hx hb hr hts hown hlocks hml htb hK hG hN hsz H locs hI ls hl
  subst hsz
  have hown : s.vm.findClass RL = some m.cls := hown
  have hl : lv_has ls 4 [(0, .ref (am 0 0)), (1, .int (iZ a)), (2, .ref (am 9 0))] := hl
  have hvz : 0 < n 0 := hW.1.1
  refine lv_aload_n hx hb dL_setTolerance_0 rfl (lv_at hl 2 rfl) ?_
  refine z_iconst hx hb dL_setTolerance_1 ?_
  refine lv_aload_n hx hb dL_setTolerance_2 rfl (lv_at hl 0 rfl) ?_
  refine lv_iload_n hx hb dL_setTolerance_3 rfl (lv_at hl 1 rfl) ?_
  refine zxh_i (zxV (As := [.int (iZ a)]) (rest := [.int (iZ 0), .ref (am 9 0)]) (κ := 0) (i := 0) ⟨hx, hb, hml, hown, hts⟩ (c_X4_setTolerance l hfl D cA n am S H.size a hW ha0) (cwV 1 hts gL_setTolerance_X4_setTolerance rfl rfl rfl (by decide +kernel) ⟨Nat.le_of_ble_eq_true rfl, Nat.le_of_ble_eq_true rfl⟩) hK hI hG hvz rfl rfl rfl hl.1 rfl (Nat.le_of_ble_eq_true rfl) dL_setTolerance_4 ⟨Nat.le_of_ble_eq_true rfl, Nat.le_of_ble_eq_true rfl⟩) hI (fun E ce q H locs hpx hI hcell hcv hcl => ?_) (fun z u9 H locs hz hp hI => ?_)
  · obtain ⟨rfl, hpx⟩ := hpx
    refine vx_catch hown [] ⟨0, 9, 12, 13⟩ [] (htb.trans rfl) (fun _ h => absurd h List.not_mem_nil) rfl (by decide) (hts (.classLink RL 13 "java/lang/IllegalArgumentException") (by decide +kernel)) (va_Nw.use rfl (hG.2.2.2.1 _ xC_IAE)) hcell hcv hcl ?_
    refine lv_astore_n (lv' := [(3, .ref q), (0, .ref (am 0 0)), (1, .int (iZ a)), (2, .ref (am 9 0))]) hx hb dL_setTolerance_12 rfl hl (by decide) rfl (fun ls hl => ?_)
    refine z_iconst hx hb dL_setTolerance_13 ?_
    exact ze_i (u' := (n, am, S)) (z := 1) hx hb hr rfl hI (by decide) (Or.inr ⟨rfl, hpx, rfl⟩) (Nat.le_of_ble_eq_true rfl) (Nat.le_of_ble_eq_true rfl) dL_setTolerance_14 hlocks
  · obtain ⟨hc0, rfl, rfl⟩ := hp
    refine z_i2l hx hb dL_setTolerance_7 hz ?_
    refine zs_l (κ := 9) (i := 0) hx hb hK hI h9 rfl (by decide) (by decide) (by decide) dL_setTolerance_8 (fun H locs hI => ?_)
    refine lv_goto (tgt := 15) hx hb dL_setTolerance_9 (by decide) ?_
    refine z_iconst hx hb dL_setTolerance_15 ?_
    exact ze_i (u' := (n, am, up3 (up3 S 0 0 5 a) 9 0 0 (S 0 0 5))) (z := 0) hx hb hr rfl hI (by decide) (Or.inl ⟨rfl, hc0, rfl⟩) (Nat.le_of_ble_eq_true rfl) (Nat.le_of_ble_eq_true rfl) dL_setTolerance_16 hlocks
set_option maxHeartbeats 4000000 in
set_option maxRecDepth 100000 in
theorem c_L_setCharges (l : Launch) (hfl : l.stackTraces = false) (D : va_G) (cA : Nat → ClassId) (n : Nat → Nat) (am : ts_Am) (S : ts_St) (sz : Nat) (a b d v : Int) (hW : cW n S) (ha0 : iR a) (hb0 : iR b) (hd0 : iR d) (hv0 : iR v) (h9 : 0 < n 9) : Met l yL_setCharges wsL_setCharges ({ frames := 7, cells := 1, slots := 6, locals := 115 } : Room) (va_Pc [.ref (am 0 0), .int (iZ a), .int (iZ b), .int (iZ d), .int (iZ v), .ref (am 9 0)] (zPH TX D cA (n, am, S) sz)) (zQi TX D cA (n, am, S) sz (fun k u => (k = 0 ∧ ((0 ≤ a ∧ a ≤ 24) ∧ (0 ≤ b ∧ b ≤ 99) ∧ (0 ≤ d ∧ d ≤ 24) ∧ 0 ≤ v ∧ v ≤ 99) ∧ u = (n, am, up3 (up3 (up3 (up3 (up3 S 0 0 6 a) 0 0 7 b) 0 0 8 d) 0 0 9 v) 9 0 0 (S 0 0 6))) ∨ (k = 1 ∧ (¬ ((0 ≤ a ∧ a ≤ 24) ∧ (0 ≤ b ∧ b ≤ 99) ∧ (0 ≤ d ∧ d ≤ 24) ∧ 0 ≤ v ∧ v ≤ 99)) ∧ u = (n, am, S)))) 1 6 (ts_A (n, am, S) sz) := by
  refine zMh_of (by decide) rfl (Nat.le_of_ble_eq_true rfl) ?_
  intro p e s m below meth c hx hb hr hts hown hlocks hml htb hK hG hN hsz H locs hI ls hl
  subst hsz
  have hown : s.vm.findClass RL = some m.cls := hown
  have hl : lv_has ls 7 [(0, .ref (am 0 0)), (1, .int (iZ a)), (2, .int (iZ b)), (3, .int (iZ d)), (4, .int (iZ v)), (5, .ref (am 9 0))] := hl
  have hvz : 0 < n 0 := hW.1.1
  refine lv_aload hx hb dL_setCharges_0 (lv_at hl 5 rfl) ?_
  refine z_iconst hx hb dL_setCharges_2 ?_
  refine lv_aload_n hx hb dL_setCharges_3 rfl (lv_at hl 0 rfl) ?_
  refine lv_iload_n hx hb dL_setCharges_4 rfl (lv_at hl 1 rfl) ?_
  refine lv_iload_n hx hb dL_setCharges_5 rfl (lv_at hl 2 rfl) ?_
  refine lv_iload_n hx hb dL_setCharges_6 rfl (lv_at hl 3 rfl) ?_
  refine lv_iload hx hb dL_setCharges_7 (lv_at hl 4 rfl) ?_
  refine zxh_i (zxV (As := [.int (iZ a), .int (iZ b), .int (iZ d), .int (iZ v)]) (rest := [.int (iZ 0), .ref (am 9 0)]) (κ := 0) (i := 0) ⟨hx, hb, hml, hown, hts⟩ (c_X4_setCharges l hfl D cA n am S H.size a b d v hW ha0 hb0 hd0 hv0) (cwV 4 hts gL_setCharges_X4_setCharges rfl rfl rfl (by decide +kernel) ⟨Nat.le_of_ble_eq_true rfl, Nat.le_of_ble_eq_true rfl⟩) hK hI hG hvz rfl rfl rfl hl.1 rfl (Nat.le_of_ble_eq_true rfl) dL_setCharges_9 ⟨Nat.le_of_ble_eq_true rfl, Nat.le_of_ble_eq_true rfl⟩) hI (fun E ce q H locs hpx hI hcell hcv hcl => ?_) (fun z u9 H locs hz hp hI => ?_)
  · obtain ⟨rfl, hpx⟩ := hpx
    refine vx_catch hown [] ⟨0, 14, 17, 13⟩ [] (htb.trans rfl) (fun _ h => absurd h List.not_mem_nil) rfl (by decide) (hts (.classLink RL 13 "java/lang/IllegalArgumentException") (by decide +kernel)) (va_Nw.use rfl (hG.2.2.2.1 _ xC_IAE)) hcell hcv hcl ?_
    refine lv_astore (lv' := [(6, .ref q), (0, .ref (am 0 0)), (1, .int (iZ a)), (2, .int (iZ b)), (3, .int (iZ d)), (4, .int (iZ v)), (5, .ref (am 9 0))]) hx hb dL_setCharges_17 hl (by decide) rfl (fun ls hl => ?_)
    refine z_iconst hx hb dL_setCharges_19 ?_
    exact ze_i (u' := (n, am, S)) (z := 1) hx hb hr rfl hI (by decide) (Or.inr ⟨rfl, hpx, rfl⟩) (Nat.le_of_ble_eq_true rfl) (Nat.le_of_ble_eq_true rfl) dL_setCharges_20 hlocks
  · obtain ⟨hc0, rfl, rfl⟩ := hp
    refine z_i2l hx hb dL_setCharges_12 hz ?_
    refine zs_l (κ := 9) (i := 0) hx hb hK hI h9 rfl (by decide) (by decide) (by decide) dL_setCharges_13 (fun H locs hI => ?_)
    refine lv_goto (tgt := 21) hx hb dL_setCharges_14 (by decide) ?_
    refine z_iconst hx hb dL_setCharges_21 ?_
    exact ze_i (u' := (n, am, up3 (up3 (up3 (up3 (up3 S 0 0 6 a) 0 0 7 b) 0 0 8 d) 0 0 9 v) 9 0 0 (S 0 0 6))) (z := 0) hx hb hr rfl hI (by decide) (Or.inl ⟨rfl, hc0, rfl⟩) (Nat.le_of_ble_eq_true rfl) (Nat.le_of_ble_eq_true rfl) dL_setCharges_22 hlocks
set_option maxHeartbeats 4000000 in
set_option maxRecDepth 100000 in
theorem c_L_book (l : Launch) (hfl : l.stackTraces = false) (D : va_G) (cA : Nat → ClassId) (n : Nat → Nat) (am : ts_Am) (S : ts_St) (sz : Nat) (a b d : Int) (hW : cW n S) (hcr : cR n S) (ha0 : iR a) (hb0 : 0 ≤ b ∧ b < 65536) (hd0 : iR d) (h9 : 0 < n 9) : Met l yL_book wsL_book ({ frames := 7, cells := 1, slots := 10, locals := 114 } : Room) (va_Pc [.ref (am 0 0), .int (iZ a), .int (iZ b), .int (iZ d), .ref (am 9 0)] (zPH TX D cA (n, am, S) sz)) (zQi TX D cA (n, am, S) sz (fun k u => (k = 0 ∧ (((S 0 0 10 ≤ a ∧ a ≤ 999) ∧ (b = 100 ∨ b = 99) ∧ 1 ≤ d ∧ d ≤ 9) ∧ n 8 < 40) ∧ ∃ am', amK n am am' ∧ u = (upN n 8 (n 8 + 1), am', up3 (yBookA n S a b d) 9 0 0 ((n 8 : Int)))) ∨ (k = 1 ∧ (¬ ((S 0 0 10 ≤ a ∧ a ≤ 999) ∧ (b = 100 ∨ b = 99) ∧ 1 ≤ d ∧ d ≤ 9)) ∧ u = (n, am, S)) ∨ (k = 2 ∧ (((S 0 0 10 ≤ a ∧ a ≤ 999) ∧ (b = 100 ∨ b = 99) ∧ 1 ≤ d ∧ d ≤ 9) ∧ ¬ n 8 < 40) ∧ u = (n, am, S)))) 1 10 (ts_A (n, am, S) sz) := by
  refine zMh_of (by decide) rfl (Nat.le_of_ble_eq_true rfl) ?_
  intro p e s m below meth c hx hb hr hts hown hlocks hml htb hK hG hN hsz H locs hI ls hl
  subst hsz
  have hown : s.vm.findClass RL = some m.cls := hown
  have hl : lv_has ls 6 [(0, .ref (am 0 0)), (1, .int (iZ a)), (2, .int (iZ b)), (3, .int (iZ d)), (4, .ref (am 9 0))] := hl
  have hvz : 0 < n 0 := hW.1.1
  refine lv_aload hx hb dL_book_0 (lv_at hl 4 rfl) ?_
  refine z_iconst hx hb dL_book_2 ?_
  refine lv_aload_n hx hb dL_book_3 rfl (lv_at hl 0 rfl) ?_
  refine lv_iload_n hx hb dL_book_4 rfl (lv_at hl 1 rfl) ?_
  refine lv_iload_n hx hb dL_book_5 rfl (lv_at hl 2 rfl) ?_
  refine lv_iload_n hx hb dL_book_6 rfl (lv_at hl 3 rfl) ?_
  refine zxh_i (zxV (As := [.int (iZ a), .int (iZ b), .int (iZ d)]) (rest := [.int (iZ 0), .ref (am 9 0)]) (κ := 0) (i := 0) ⟨hx, hb, hml, hown, hts⟩ (c_X4_book l hfl D cA n am S H.size a b d hW hcr ha0 hb0 hd0) (cwV 3 hts gL_book_X4_book rfl rfl rfl (by decide +kernel) ⟨Nat.le_of_ble_eq_true rfl, Nat.le_of_ble_eq_true rfl⟩) hK hI hG hvz rfl rfl rfl hl.1 rfl (Nat.le_of_ble_eq_true rfl) dL_book_7 ⟨Nat.le_of_ble_eq_true rfl, Nat.le_of_ble_eq_true rfl⟩) hI (fun E ce q H locs hpx hI hcell hcv hcl => ?_) (fun z u9 H locs hz hp hI => ?_)
  · rcases hpx with ⟨rfl, hpx⟩ | ⟨rfl, hpx⟩
    · refine vx_catch hown [] ⟨0, 12, 15, 13⟩ [⟨0, 12, 19, 15⟩] (htb.trans rfl) (fun _ h => absurd h List.not_mem_nil) rfl (by decide) (hts (.classLink RL 13 "java/lang/IllegalArgumentException") (by decide +kernel)) (va_Nw.use rfl (hG.2.2.2.1 _ xC_IAE)) hcell hcv hcl ?_
      refine lv_astore (lv' := [(5, .ref q), (0, .ref (am 0 0)), (1, .int (iZ a)), (2, .int (iZ b)), (3, .int (iZ d)), (4, .ref (am 9 0))]) hx hb dL_book_15 hl (by decide) rfl (fun ls hl => ?_)
      refine z_iconst hx hb dL_book_17 ?_
      exact ze_i (u' := (n, am, S)) (z := 1) hx hb hr rfl hI (by decide) (Or.inr (Or.inl ⟨rfl, hpx, rfl⟩)) (Nat.le_of_ble_eq_true rfl) (Nat.le_of_ble_eq_true rfl) dL_book_18 hlocks
    · refine vx_catch hown [⟨0, 12, 15, 13⟩] ⟨0, 12, 19, 15⟩ [] (htb.trans rfl) (List.forall_mem_cons.mpr ⟨Or.inr ⟨by decide, _, hts (.classLink RL 13 "java/lang/IllegalArgumentException") (by decide +kernel), hN (xN_ISE, xN_IAE) (by decide +kernel)⟩, fun _ h => absurd h List.not_mem_nil⟩) rfl (by decide) (hts (.classLink RL 15 "java/lang/IllegalStateException") (by decide +kernel)) (va_Nw.use rfl (hG.2.2.2.1 _ xC_ISE)) hcell hcv hcl ?_
      refine lv_astore (lv' := [(5, .ref q), (0, .ref (am 0 0)), (1, .int (iZ a)), (2, .int (iZ b)), (3, .int (iZ d)), (4, .ref (am 9 0))]) hx hb dL_book_19 hl (by decide) rfl (fun ls hl => ?_)
      refine z_iconst hx hb dL_book_21 ?_
      exact ze_i (u' := (n, am, S)) (z := 2) hx hb hr rfl hI (by decide) (Or.inr (Or.inr ⟨rfl, hpx, rfl⟩)) (Nat.le_of_ble_eq_true rfl) (Nat.le_of_ble_eq_true rfl) dL_book_22 hlocks
  · obtain ⟨hc0, rfl, am', hk, rfl⟩ := hp
    rw [← hk 9 0 h9]
    refine z_i2l hx hb dL_book_10 hz ?_
    refine zs_l (κ := 9) (i := 0) hx hb hK hI (by simp only [upN]; exact h9) rfl (by decide) (by decide) (by decide) dL_book_11 (fun H locs hI => ?_)
    refine lv_goto (tgt := 23) hx hb dL_book_12 (by decide) ?_
    refine z_iconst hx hb dL_book_23 ?_
    exact ze_i (u' := ((upN n 8 (n 8 + 1)), am', up3 (yBookA n S a b d) 9 0 0 ((n 8 : Int)))) (z := 0) hx hb hr rfl hI (by decide) (Or.inl ⟨rfl, hc0, am', hk, rfl⟩) (Nat.le_of_ble_eq_true rfl) (Nat.le_of_ble_eq_true rfl) dL_book_24 hlocks
set_option maxHeartbeats 4000000 in
set_option maxRecDepth 100000 in
theorem c_L_arrive (l : Launch) (hfl : l.stackTraces = false) (D : va_G) (cA : Nat → ClassId) (n : Nat → Nat) (am : ts_Am) (S : ts_St) (sz : Nat) (x y : Int) (hW : cW n S) (hx0 : iR x) (hy0 : iR y) (hok : cOk n S) (h9 : 0 < n 9) : Met l yL_arrive wsL_arrive ({ frames := 8, cells := 3, slots := 18, locals := 136 } : Room) (va_Pc [.ref (am 0 0), .int (iZ x), .int (iZ y), .ref (am 9 0)] (zPH TX D cA (n, am, S) sz)) (zQi TX D cA (n, am, S) sz (fun k u => (k = 0 ∧ ((0 ≤ x ∧ x < (n 8 : Int)) ∧ (0 ≤ y ∧ y < (n 5 : Int)) ∧ S 8 x.toNat 4 = 98 ∧ ySum S (S 1 0 1).toNat < 6 ∧ yTake S y.toNat x.toNat) ∧ u = (n, am, up3 (yArr S y.toNat x.toNat) 9 0 0 (yPunc (yArr S y.toNat x.toNat) x.toNat))) ∨ (k = 1 ∧ (¬ (0 ≤ x ∧ x < (n 8 : Int))) ∧ u = (n, am, S)) ∨ (k = 2 ∧ ((0 ≤ x ∧ x < (n 8 : Int)) ∧ ¬ (0 ≤ y ∧ y < (n 5 : Int))) ∧ u = (n, am, S)) ∨ (k = 3 ∧ ((0 ≤ x ∧ x < (n 8 : Int)) ∧ (0 ≤ y ∧ y < (n 5 : Int)) ∧ (¬ S 8 x.toNat 4 = 98 ∨ 6 ≤ ySum S (S 1 0 1).toNat)) ∧ u = (n, am, S)) ∨ (k = 4 ∧ ((0 ≤ x ∧ x < (n 8 : Int)) ∧ (0 ≤ y ∧ y < (n 5 : Int)) ∧ S 8 x.toNat 4 = 98 ∧ ySum S (S 1 0 1).toNat < 6 ∧ ¬ yTake S y.toNat x.toNat) ∧ u = (n, am, S)))) 3 18 (ts_A (n, am, S) sz) := by
  refine zMh_of (by decide) rfl (Nat.le_of_ble_eq_true rfl) ?_
  intro p e s m below meth c hx hb hr hts hown hlocks hml htb hK hG hN hsz H locs hI ls hl
  subst hsz
  have hown : s.vm.findClass RL = some m.cls := hown
  have hl : lv_has ls 5 [(0, .ref (am 0 0)), (1, .int (iZ x)), (2, .int (iZ y)), (3, .ref (am 9 0))] := hl
  have hvz : 0 < n 0 := hW.1.1
  refine lv_aload_n hx hb dL_arrive_0 rfl (lv_at hl 3 rfl) ?_
  refine z_iconst hx hb dL_arrive_1 ?_
  refine lv_aload_n hx hb dL_arrive_2 rfl (lv_at hl 0 rfl) ?_
  refine lv_iload_n hx hb dL_arrive_3 rfl (lv_at hl 1 rfl) ?_
  refine lv_iload_n hx hb dL_arrive_4 rfl (lv_at hl 2 rfl) ?_
  refine zxh_i (zxV (As := [.int (iZ x), .int (iZ y)]) (rest := [.int (iZ 0), .ref (am 9 0)]) (κ := 0) (i := 0) ⟨hx, hb, hml, hown, hts⟩ (c_X4_arrive l hfl D cA n am S H.size x y hW hx0 hy0 hok) (cwV 2 hts gL_arrive_X4_arrive rfl rfl rfl (by decide +kernel) ⟨Nat.le_of_ble_eq_true rfl, Nat.le_of_ble_eq_true rfl⟩) hK hI hG hvz rfl rfl rfl hl.1 rfl (Nat.le_of_ble_eq_true rfl) dL_arrive_5 ⟨Nat.le_of_ble_eq_true rfl, Nat.le_of_ble_eq_true rfl⟩) hI (fun E ce q H locs hpx hI hcell hcv hcl => ?_) (fun z u9 H locs hz hp hI => ?_)
  · rcases hpx with ⟨rfl, hpx⟩ | ⟨rfl, hpx⟩ | ⟨rfl, hpx⟩ | ⟨rfl, hpx⟩
    · refine vx_catch hown [] ⟨0, 10, 13, 37⟩ [⟨0, 10, 17, 39⟩, ⟨0, 10, 21, 15⟩, ⟨0, 10, 25, 41⟩] (htb.trans rfl) (fun _ h => absurd h List.not_mem_nil) rfl (by decide) (hts (.classLink RL 37 "java/util/NoSuchElementException") (by decide +kernel)) (va_Nw.use rfl (hG.2.2.2.1 _ xC_NSE)) hcell hcv hcl ?_
      refine lv_astore (lv' := [(4, .ref q), (0, .ref (am 0 0)), (1, .int (iZ x)), (2, .int (iZ y)), (3, .ref (am 9 0))]) hx hb dL_arrive_13 hl (by decide) rfl (fun ls hl => ?_)
      refine z_iconst hx hb dL_arrive_15 ?_
      exact ze_i (u' := (n, am, S)) (z := 1) hx hb hr rfl hI (by decide) (Or.inr (Or.inl ⟨rfl, hpx, rfl⟩)) (Nat.le_of_ble_eq_true rfl) (Nat.le_of_ble_eq_true rfl) dL_arrive_16 hlocks
    · refine vx_catch hown [⟨0, 10, 13, 37⟩] ⟨0, 10, 17, 39⟩ [⟨0, 10, 21, 15⟩, ⟨0, 10, 25, 41⟩] (htb.trans rfl) (List.forall_mem_cons.mpr ⟨Or.inr ⟨by decide, _, hts (.classLink RL 37 "java/util/NoSuchElementException") (by decide +kernel), hN (xN_IOB, xN_NSE) (by decide +kernel)⟩, fun _ h => absurd h List.not_mem_nil⟩) rfl (by decide) (hts (.classLink RL 39 "java/lang/IndexOutOfBoundsException") (by decide +kernel)) (va_Nw.use rfl (hG.2.2.2.1 _ xC_IOB)) hcell hcv hcl ?_
      refine lv_astore (lv' := [(4, .ref q), (0, .ref (am 0 0)), (1, .int (iZ x)), (2, .int (iZ y)), (3, .ref (am 9 0))]) hx hb dL_arrive_17 hl (by decide) rfl (fun ls hl => ?_)
      refine z_iconst hx hb dL_arrive_19 ?_
      exact ze_i (u' := (n, am, S)) (z := 2) hx hb hr rfl hI (by decide) (Or.inr (Or.inr (Or.inl ⟨rfl, hpx, rfl⟩))) (Nat.le_of_ble_eq_true rfl) (Nat.le_of_ble_eq_true rfl) dL_arrive_20 hlocks
    · refine vx_catch hown [⟨0, 10, 13, 37⟩, ⟨0, 10, 17, 39⟩] ⟨0, 10, 21, 15⟩ [⟨0, 10, 25, 41⟩] (htb.trans rfl) (List.forall_mem_cons.mpr ⟨Or.inr ⟨by decide, _, hts (.classLink RL 37 "java/util/NoSuchElementException") (by decide +kernel), hN (xN_ISE, xN_NSE) (by decide +kernel)⟩, List.forall_mem_cons.mpr ⟨Or.inr ⟨by decide, _, hts (.classLink RL 39 "java/lang/IndexOutOfBoundsException") (by decide +kernel), hN (xN_ISE, xN_IOB) (by decide +kernel)⟩, fun _ h => absurd h List.not_mem_nil⟩⟩) rfl (by decide) (hts (.classLink RL 15 "java/lang/IllegalStateException") (by decide +kernel)) (va_Nw.use rfl (hG.2.2.2.1 _ xC_ISE)) hcell hcv hcl ?_
      refine lv_astore (lv' := [(4, .ref q), (0, .ref (am 0 0)), (1, .int (iZ x)), (2, .int (iZ y)), (3, .ref (am 9 0))]) hx hb dL_arrive_21 hl (by decide) rfl (fun ls hl => ?_)
      refine z_iconst hx hb dL_arrive_23 ?_
      exact ze_i (u' := (n, am, S)) (z := 3) hx hb hr rfl hI (by decide) (Or.inr (Or.inr (Or.inr (Or.inl ⟨rfl, hpx, rfl⟩)))) (Nat.le_of_ble_eq_true rfl) (Nat.le_of_ble_eq_true rfl) dL_arrive_24 hlocks
    · refine vx_catch hown [⟨0, 10, 13, 37⟩, ⟨0, 10, 17, 39⟩, ⟨0, 10, 21, 15⟩] ⟨0, 10, 25, 41⟩ [] (htb.trans rfl) (List.forall_mem_cons.mpr ⟨Or.inr ⟨by decide, _, hts (.classLink RL 37 "java/util/NoSuchElementException") (by decide +kernel), hN (xN_UOE, xN_NSE) (by decide +kernel)⟩, List.forall_mem_cons.mpr ⟨Or.inr ⟨by decide, _, hts (.classLink RL 39 "java/lang/IndexOutOfBoundsException") (by decide +kernel), hN (xN_UOE, xN_IOB) (by decide +kernel)⟩, List.forall_mem_cons.mpr ⟨Or.inr ⟨by decide, _, hts (.classLink RL 15 "java/lang/IllegalStateException") (by decide +kernel), hN (xN_UOE, xN_ISE) (by decide +kernel)⟩, fun _ h => absurd h List.not_mem_nil⟩⟩⟩) rfl (by decide) (hts (.classLink RL 41 "java/lang/UnsupportedOperationException") (by decide +kernel)) (va_Nw.use rfl (hG.2.2.2.1 _ xC_UOE)) hcell hcv hcl ?_
      refine lv_astore (lv' := [(4, .ref q), (0, .ref (am 0 0)), (1, .int (iZ x)), (2, .int (iZ y)), (3, .ref (am 9 0))]) hx hb dL_arrive_25 hl (by decide) rfl (fun ls hl => ?_)
      refine z_iconst hx hb dL_arrive_27 ?_
      exact ze_i (u' := (n, am, S)) (z := 4) hx hb hr rfl hI (by decide) (Or.inr (Or.inr (Or.inr (Or.inr ⟨rfl, hpx, rfl⟩)))) (Nat.le_of_ble_eq_true rfl) (Nat.le_of_ble_eq_true rfl) dL_arrive_28 hlocks
  · obtain ⟨hc0, rfl, rfl⟩ := hp
    refine z_i2l hx hb dL_arrive_8 hz ?_
    refine zs_l (κ := 9) (i := 0) hx hb hK hI h9 rfl (by decide) (by decide) (by decide) dL_arrive_9 (fun H locs hI => ?_)
    refine lv_goto (tgt := 29) hx hb dL_arrive_10 (by decide) ?_
    refine z_iconst hx hb dL_arrive_29 ?_
    exact ze_i (u' := (n, am, up3 (yArr S y.toNat x.toNat) 9 0 0 (yPunc (yArr S y.toNat x.toNat) x.toNat))) (z := 0) hx hb hr rfl hI (by decide) (Or.inl ⟨rfl, hc0, rfl⟩) (Nat.le_of_ble_eq_true rfl) (Nat.le_of_ble_eq_true rfl) dL_arrive_30 hlocks
set_option maxHeartbeats 4000000 in
set_option maxRecDepth 100000 in
theorem c_L_state (l : Launch) (hfl : l.stackTraces = false) (D : va_G) (cA : Nat → ClassId) (n : Nat → Nat) (am : ts_Am) (S : ts_St) (sz : Nat) (x : Int) (hW : cW n S) (hx0 : iR x) (hcr : cR n S) (h9 : 0 < n 9) : Met l yL_state wsL_state ({ frames := 8, cells := 1, slots := 6, locals := 133 } : Room) (va_Pc [.ref (am 0 0), .int (iZ x), .ref (am 9 0)] (zPH TX D cA (n, am, S) sz)) (zQi TX D cA (n, am, S) sz (fun k u => (k = 0 ∧ (0 ≤ x ∧ x < (n 8 : Int)) ∧ u = (n, am, up3 (S) 9 0 0 (S 8 x.toNat 4))) ∨ (k = 1 ∧ (¬ (0 ≤ x ∧ x < (n 8 : Int))) ∧ u = (n, am, S)))) 1 6 (ts_A (n, am, S) sz) := by
  refine zMh_of (by decide) rfl (Nat.le_of_ble_eq_true rfl) ?_
  intro p e s m below meth c hx hb hr hts hown hlocks hml htb hK hG hN hsz H locs hI ls hl
  subst hsz
  have hown : s.vm.findClass RL = some m.cls := hown
  have hl : lv_has ls 4 [(0, .ref (am 0 0)), (1, .int (iZ x)), (2, .ref (am 9 0))] := hl
  have hvz : 0 < n 0 := hW.1.1
  refine lv_aload_n hx hb dL_state_0 rfl (lv_at hl 2 rfl) ?_
  refine z_iconst hx hb dL_state_1 ?_
  refine lv_aload_n hx hb dL_state_2 rfl (lv_at hl 0 rfl) ?_
  refine lv_iload_n hx hb dL_state_3 rfl (lv_at hl 1 rfl) ?_
  refine zxh_i (zxV (As := [.int (iZ x)]) (rest := [.int (iZ 0), .ref (am 9 0)]) (κ := 0) (i := 0) ⟨hx, hb, hml, hown, hts⟩ (c_X4_state l hfl D cA n am S H.size x hW hx0 hcr) (cwV 1 hts gL_state_X4_state rfl rfl rfl (by decide +kernel) ⟨Nat.le_of_ble_eq_true rfl, Nat.le_of_ble_eq_true rfl⟩) hK hI hG hvz rfl rfl rfl hl.1 rfl (Nat.le_of_ble_eq_true rfl) dL_state_4 ⟨Nat.le_of_ble_eq_true rfl, Nat.le_of_ble_eq_true rfl⟩) hI (fun E ce q H locs hpx hI hcell hcv hcl => ?_) (fun z u9 H locs hz hp hI => ?_)
  · obtain ⟨rfl, hpx⟩ := hpx
    refine vx_catch hown [] ⟨0, 9, 12, 37⟩ [] (htb.trans rfl) (fun _ h => absurd h List.not_mem_nil) rfl (by decide) (hts (.classLink RL 37 "java/util/NoSuchElementException") (by decide +kernel)) (va_Nw.use rfl (hG.2.2.2.1 _ xC_NSE)) hcell hcv hcl ?_
    refine lv_astore_n (lv' := [(3, .ref q), (0, .ref (am 0 0)), (1, .int (iZ x)), (2, .ref (am 9 0))]) hx hb dL_state_12 rfl hl (by decide) rfl (fun ls hl => ?_)
    refine z_iconst hx hb dL_state_13 ?_
    exact ze_i (u' := (n, am, S)) (z := 1) hx hb hr rfl hI (by decide) (Or.inr ⟨rfl, hpx, rfl⟩) (Nat.le_of_ble_eq_true rfl) (Nat.le_of_ble_eq_true rfl) dL_state_14 hlocks
  · obtain ⟨hc0, rfl, rfl⟩ := hp
    refine z_i2l hx hb dL_state_7 hz ?_
    refine zs_l (κ := 9) (i := 0) hx hb hK hI h9 rfl (by decide) (by decide) (by decide) dL_state_8 (fun H locs hI => ?_)
    refine lv_goto (tgt := 15) hx hb dL_state_9 (by decide) ?_
    refine z_iconst hx hb dL_state_15 ?_
    exact ze_i (u' := (n, am, up3 (S) 9 0 0 (S 8 x.toNat 4))) (z := 0) hx hb hr rfl hI (by decide) (Or.inl ⟨rfl, hc0, rfl⟩) (Nat.le_of_ble_eq_true rfl) (Nat.le_of_ble_eq_true rfl) dL_state_16 hlocks
set_option maxHeartbeats 4000000 in
set_option maxRecDepth 100000 in
theorem c_L_punctuality (l : Launch) (hfl : l.stackTraces = false) (D : va_G) (cA : Nat → ClassId) (n : Nat → Nat) (am : ts_Am) (S : ts_St) (sz : Nat) (x : Int) (hW : cW n S) (hx0 : iR x) (h9 : 0 < n 9) : Met l yL_punctuality wsL_punctuality ({ frames := 9, cells := 2, slots := 12, locals := 155 } : Room) (va_Pc [.ref (am 0 0), .int (iZ x), .ref (am 9 0)] (zPH TX D cA (n, am, S) sz)) (zQi TX D cA (n, am, S) sz (fun k u => (k = 0 ∧ ((0 ≤ x ∧ x < (n 8 : Int)) ∧ yCame S x.toNat) ∧ u = (n, am, up3 (S) 9 0 0 (yPunc S x.toNat))) ∨ (k = 1 ∧ (¬ (0 ≤ x ∧ x < (n 8 : Int))) ∧ u = (n, am, S)) ∨ (k = 2 ∧ ((0 ≤ x ∧ x < (n 8 : Int)) ∧ ¬ yCame S x.toNat) ∧ u = (n, am, S)))) 2 12 (ts_A (n, am, S) sz) := by
  refine zMh_of (by decide) rfl (Nat.le_of_ble_eq_true rfl) ?_
  intro p e s m below meth c hx hb hr hts hown hlocks hml htb hK hG hN hsz H locs hI ls hl
  subst hsz
  have hown : s.vm.findClass RL = some m.cls := hown
  have hl : lv_has ls 4 [(0, .ref (am 0 0)), (1, .int (iZ x)), (2, .ref (am 9 0))] := hl
  have hvz : 0 < n 0 := hW.1.1
  refine lv_aload_n hx hb dL_punctuality_0 rfl (lv_at hl 2 rfl) ?_
  refine z_iconst hx hb dL_punctuality_1 ?_
  refine lv_aload_n hx hb dL_punctuality_2 rfl (lv_at hl 0 rfl) ?_
  refine lv_iload_n hx hb dL_punctuality_3 rfl (lv_at hl 1 rfl) ?_
  refine zxh_i (zxV (As := [.int (iZ x)]) (rest := [.int (iZ 0), .ref (am 9 0)]) (κ := 0) (i := 0) ⟨hx, hb, hml, hown, hts⟩ (c_X4_punctuality l hfl D cA n am S H.size x hW hx0) (cwV 1 hts gL_punctuality_X4_punctuality rfl rfl rfl (by decide +kernel) ⟨Nat.le_of_ble_eq_true rfl, Nat.le_of_ble_eq_true rfl⟩) hK hI hG hvz rfl rfl rfl hl.1 rfl (Nat.le_of_ble_eq_true rfl) dL_punctuality_4 ⟨Nat.le_of_ble_eq_true rfl, Nat.le_of_ble_eq_true rfl⟩) hI (fun E ce q H locs hpx hI hcell hcv hcl => ?_) (fun z u9 H locs hz hp hI => ?_)
  · rcases hpx with ⟨rfl, hpx⟩ | ⟨rfl, hpx⟩
    · refine vx_catch hown [] ⟨0, 9, 12, 37⟩ [⟨0, 9, 15, 15⟩] (htb.trans rfl) (fun _ h => absurd h List.not_mem_nil) rfl (by decide) (hts (.classLink RL 37 "java/util/NoSuchElementException") (by decide +kernel)) (va_Nw.use rfl (hG.2.2.2.1 _ xC_NSE)) hcell hcv hcl ?_
      refine lv_astore_n (lv' := [(3, .ref q), (0, .ref (am 0 0)), (1, .int (iZ x)), (2, .ref (am 9 0))]) hx hb dL_punctuality_12 rfl hl (by decide) rfl (fun ls hl => ?_)
      refine z_iconst hx hb dL_punctuality_13 ?_
      exact ze_i (u' := (n, am, S)) (z := 1) hx hb hr rfl hI (by decide) (Or.inr (Or.inl ⟨rfl, hpx, rfl⟩)) (Nat.le_of_ble_eq_true rfl) (Nat.le_of_ble_eq_true rfl) dL_punctuality_14 hlocks
    · refine vx_catch hown [⟨0, 9, 12, 37⟩] ⟨0, 9, 15, 15⟩ [] (htb.trans rfl) (List.forall_mem_cons.mpr ⟨Or.inr ⟨by decide, _, hts (.classLink RL 37 "java/util/NoSuchElementException") (by decide +kernel), hN (xN_ISE, xN_NSE) (by decide +kernel)⟩, fun _ h => absurd h List.not_mem_nil⟩) rfl (by decide) (hts (.classLink RL 15 "java/lang/IllegalStateException") (by decide +kernel)) (va_Nw.use rfl (hG.2.2.2.1 _ xC_ISE)) hcell hcv hcl ?_
      refine lv_astore_n (lv' := [(3, .ref q), (0, .ref (am 0 0)), (1, .int (iZ x)), (2, .ref (am 9 0))]) hx hb dL_punctuality_15 rfl hl (by decide) rfl (fun ls hl => ?_)
      refine z_iconst hx hb dL_punctuality_16 ?_
      exact ze_i (u' := (n, am, S)) (z := 2) hx hb hr rfl hI (by decide) (Or.inr (Or.inr ⟨rfl, hpx, rfl⟩)) (Nat.le_of_ble_eq_true rfl) (Nat.le_of_ble_eq_true rfl) dL_punctuality_17 hlocks
  · obtain ⟨hc0, rfl, rfl⟩ := hp
    refine z_i2l hx hb dL_punctuality_7 hz ?_
    refine zs_l (κ := 9) (i := 0) hx hb hK hI h9 rfl (by decide) (by decide) (by decide) dL_punctuality_8 (fun H locs hI => ?_)
    refine lv_goto (tgt := 18) hx hb dL_punctuality_9 (by decide) ?_
    refine z_iconst hx hb dL_punctuality_18 ?_
    exact ze_i (u' := (n, am, up3 (S) 9 0 0 (yPunc S x.toNat))) (z := 0) hx hb hr rfl hI (by decide) (Or.inl ⟨rfl, hc0, rfl⟩) (Nat.le_of_ble_eq_true rfl) (Nat.le_of_ble_eq_true rfl) dL_punctuality_19 hlocks
set_option maxHeartbeats 4000000 in
set_option maxRecDepth 100000 in
theorem c_L_nextBooked (l : Launch) (hfl : l.stackTraces = false) (D : va_G) (cA : Nat → ClassId) (n : Nat → Nat) (am : ts_Am) (S : ts_St) (sz : Nat) (hW : cW n S) (h9 : 0 < n 9) : Met l yL_nextBooked wsL_nextBooked ({ frames := 7, cells := 1, slots := 6, locals := 113 } : Room) (va_Pc [.ref (am 0 0), .ref (am 9 0)] (zPH TX D cA (n, am, S) sz)) (zQi TX D cA (n, am, S) sz (fun k u => (k = 0 ∧ 0 ≤ yNext S (n 8) ∧ u = (n, am, up3 (S) 9 0 0 (yNext S (n 8)))) ∨ (k = 1 ∧ (yNext S (n 8) < 0) ∧ u = (n, am, S)))) 1 6 (ts_A (n, am, S) sz) := by
  refine zMh_of (by decide) rfl (Nat.le_of_ble_eq_true rfl) ?_
  intro p e s m below meth c hx hb hr hts hown hlocks hml htb hK hG hN hsz H locs hI ls hl
  subst hsz
  have hown : s.vm.findClass RL = some m.cls := hown
  have hl : lv_has ls 3 [(0, .ref (am 0 0)), (1, .ref (am 9 0))] := hl
  have hvz : 0 < n 0 := hW.1.1
  refine lv_aload_n hx hb dL_nextBooked_0 rfl (lv_at hl 1 rfl) ?_
  refine z_iconst hx hb dL_nextBooked_1 ?_
  refine lv_aload_n hx hb dL_nextBooked_2 rfl (lv_at hl 0 rfl) ?_
  refine zxh_i (zxV (As := []) (rest := [.int (iZ 0), .ref (am 9 0)]) (κ := 0) (i := 0) ⟨hx, hb, hml, hown, hts⟩ (c_X4_nextBooked l hfl D cA n am S H.size hW) (cwV 0 hts gL_nextBooked_X4_nextBooked rfl rfl rfl (by decide +kernel) ⟨Nat.le_of_ble_eq_true rfl, Nat.le_of_ble_eq_true rfl⟩) hK hI hG hvz rfl rfl rfl hl.1 rfl (Nat.le_of_ble_eq_true rfl) dL_nextBooked_3 ⟨Nat.le_of_ble_eq_true rfl, Nat.le_of_ble_eq_true rfl⟩) hI (fun E ce q H locs hpx hI hcell hcv hcl => ?_) (fun z u9 H locs hz hp hI => ?_)
  · obtain ⟨rfl, hpx⟩ := hpx
    refine vx_catch hown [] ⟨0, 8, 11, 37⟩ [] (htb.trans rfl) (fun _ h => absurd h List.not_mem_nil) rfl (by decide) (hts (.classLink RL 37 "java/util/NoSuchElementException") (by decide +kernel)) (va_Nw.use rfl (hG.2.2.2.1 _ xC_NSE)) hcell hcv hcl ?_
    refine lv_astore_n (lv' := [(2, .ref q), (0, .ref (am 0 0)), (1, .ref (am 9 0))]) hx hb dL_nextBooked_11 rfl hl (by decide) rfl (fun ls hl => ?_)
    refine z_iconst hx hb dL_nextBooked_12 ?_
    exact ze_i (u' := (n, am, S)) (z := 1) hx hb hr rfl hI (by decide) (Or.inr ⟨rfl, hpx, rfl⟩) (Nat.le_of_ble_eq_true rfl) (Nat.le_of_ble_eq_true rfl) dL_nextBooked_13 hlocks
  · obtain ⟨hc0, rfl, rfl⟩ := hp
    refine z_i2l hx hb dL_nextBooked_6 hz ?_
    refine zs_l (κ := 9) (i := 0) hx hb hK hI h9 rfl (by decide) (by decide) (by decide) dL_nextBooked_7 (fun H locs hI => ?_)
    refine lv_goto (tgt := 14) hx hb dL_nextBooked_8 (by decide) ?_
    refine z_iconst hx hb dL_nextBooked_14 ?_
    exact ze_i (u' := (n, am, up3 (S) 9 0 0 (yNext S (n 8)))) (z := 0) hx hb hr rfl hI (by decide) (Or.inl ⟨rfl, hc0, rfl⟩) (Nat.le_of_ble_eq_true rfl) (Nat.le_of_ble_eq_true rfl) dL_nextBooked_15 hlocks
set_option maxHeartbeats 4000000 in
set_option maxRecDepth 100000 in
theorem c_L_shift (l : Launch) (hfl : l.stackTraces = false) (D : va_G) (cA : Nat → ClassId) (n : Nat → Nat) (am : ts_Am) (S : ts_St) (sz : Nat) (x y : Int) (hW : cW n S) (hx0 : iR x) (hy0 : iR y) (hcr : cR n S) (h9 : 0 < n 9) : Met l yL_shift wsL_shift ({ frames := 9, cells := 5, slots := 30, locals := 157 } : Room) (va_Pc [.ref (am 0 0), .int (iZ x), .int (iZ y), .ref (am 9 0)] (zPH TX D cA (n, am, S) sz)) (zQi TX D cA (n, am, S) sz (fun k u => (k = 0 ∧ ((0 ≤ x ∧ x < (n 8 : Int)) ∧ (0 ≤ y ∧ y < (n 5 : Int)) ∧ (0 ≤ S 8 x.toNat 7 ∧ yBefore S (S 8 x.toNat 7).toNat x.toNat = 0) ∧ ¬ S 8 x.toNat 7 = y ∧ yTake S y.toNat x.toNat) ∧ u = (n, am, up3 (yShift S (S 8 x.toNat 7).toNat y.toNat x.toNat) 9 0 0 (S 0 0 11 + 1))) ∨ (k = 1 ∧ (¬ (0 ≤ x ∧ x < (n 8 : Int))) ∧ u = (n, am, S)) ∨ (k = 2 ∧ ((0 ≤ x ∧ x < (n 8 : Int)) ∧ ¬ (0 ≤ y ∧ y < (n 5 : Int))) ∧ u = (n, am, S)) ∨ (k = 3 ∧ ((0 ≤ x ∧ x < (n 8 : Int)) ∧ (0 ≤ y ∧ y < (n 5 : Int)) ∧ ¬ (0 ≤ S 8 x.toNat 7 ∧ yBefore S (S 8 x.toNat 7).toNat x.toNat = 0)) ∧ u = (n, am, S)) ∨ (k = 4 ∧ ((0 ≤ x ∧ x < (n 8 : Int)) ∧ (0 ≤ y ∧ y < (n 5 : Int)) ∧ (0 ≤ S 8 x.toNat 7 ∧ yBefore S (S 8 x.toNat 7).toNat x.toNat = 0) ∧ (S 8 x.toNat 7 = y ∨ ¬ yTake S y.toNat x.toNat)) ∧ u = (n, am, S)))) 5 30 (ts_A (n, am, S) sz) := by
  refine zMh_of (by decide) rfl (Nat.le_of_ble_eq_true rfl) ?_
  intro p e s m below meth c hx hb hr hts hown hlocks hml htb hK hG hN hsz H locs hI ls hl
  subst hsz
  have hown : s.vm.findClass RL = some m.cls := hown
  have hl : lv_has ls 5 [(0, .ref (am 0 0)), (1, .int (iZ x)), (2, .int (iZ y)), (3, .ref (am 9 0))] := hl
  have hvz : 0 < n 0 := hW.1.1
  refine lv_aload_n hx hb dL_shift_0 rfl (lv_at hl 3 rfl) ?_
  refine z_iconst hx hb dL_shift_1 ?_
  refine lv_aload_n hx hb dL_shift_2 rfl (lv_at hl 0 rfl) ?_
  refine lv_iload_n hx hb dL_shift_3 rfl (lv_at hl 1 rfl) ?_
  refine lv_iload_n hx hb dL_shift_4 rfl (lv_at hl 2 rfl) ?_
  refine zxh_i (zxV (As := [.int (iZ x), .int (iZ y)]) (rest := [.int (iZ 0), .ref (am 9 0)]) (κ := 0) (i := 0) ⟨hx, hb, hml, hown, hts⟩ (c_X4_shift l hfl D cA n am S H.size x y hW hx0 hy0 hcr) (cwV 2 hts gL_shift_X4_shift rfl rfl rfl (by decide +kernel) ⟨Nat.le_of_ble_eq_true rfl, Nat.le_of_ble_eq_true rfl⟩) hK hI hG hvz rfl rfl rfl hl.1 rfl (Nat.le_of_ble_eq_true rfl) dL_shift_5 ⟨Nat.le_of_ble_eq_true rfl, Nat.le_of_ble_eq_true rfl⟩) hI (fun E ce q H locs hpx hI hcell hcv hcl => ?_) (fun z u9 H locs hz hp hI => ?_)
  · rcases hpx with ⟨rfl, hpx⟩ | ⟨rfl, hpx⟩ | ⟨rfl, hpx⟩ | ⟨rfl, hpx⟩
    · refine vx_catch hown [] ⟨0, 10, 13, 37⟩ [⟨0, 10, 17, 39⟩, ⟨0, 10, 21, 15⟩, ⟨0, 10, 25, 41⟩] (htb.trans rfl) (fun _ h => absurd h List.not_mem_nil) rfl (by decide) (hts (.classLink RL 37 "java/util/NoSuchElementException") (by decide +kernel)) (va_Nw.use rfl (hG.2.2.2.1 _ xC_NSE)) hcell hcv hcl ?_
      refine lv_astore (lv' := [(4, .ref q), (0, .ref (am 0 0)), (1, .int (iZ x)), (2, .int (iZ y)), (3, .ref (am 9 0))]) hx hb dL_shift_13 hl (by decide) rfl (fun ls hl => ?_)
      refine z_iconst hx hb dL_shift_15 ?_
      exact ze_i (u' := (n, am, S)) (z := 1) hx hb hr rfl hI (by decide) (Or.inr (Or.inl ⟨rfl, hpx, rfl⟩)) (Nat.le_of_ble_eq_true rfl) (Nat.le_of_ble_eq_true rfl) dL_shift_16 hlocks
    · refine vx_catch hown [⟨0, 10, 13, 37⟩] ⟨0, 10, 17, 39⟩ [⟨0, 10, 21, 15⟩, ⟨0, 10, 25, 41⟩] (htb.trans rfl) (List.forall_mem_cons.mpr ⟨Or.inr ⟨by decide, _, hts (.classLink RL 37 "java/util/NoSuchElementException") (by decide +kernel), hN (xN_IOB, xN_NSE) (by decide +kernel)⟩, fun _ h => absurd h List.not_mem_nil⟩) rfl (by decide) (hts (.classLink RL 39 "java/lang/IndexOutOfBoundsException") (by decide +kernel)) (va_Nw.use rfl (hG.2.2.2.1 _ xC_IOB)) hcell hcv hcl ?_
      refine lv_astore (lv' := [(4, .ref q), (0, .ref (am 0 0)), (1, .int (iZ x)), (2, .int (iZ y)), (3, .ref (am 9 0))]) hx hb dL_shift_17 hl (by decide) rfl (fun ls hl => ?_)
      refine z_iconst hx hb dL_shift_19 ?_
      exact ze_i (u' := (n, am, S)) (z := 2) hx hb hr rfl hI (by decide) (Or.inr (Or.inr (Or.inl ⟨rfl, hpx, rfl⟩))) (Nat.le_of_ble_eq_true rfl) (Nat.le_of_ble_eq_true rfl) dL_shift_20 hlocks
    · refine vx_catch hown [⟨0, 10, 13, 37⟩, ⟨0, 10, 17, 39⟩] ⟨0, 10, 21, 15⟩ [⟨0, 10, 25, 41⟩] (htb.trans rfl) (List.forall_mem_cons.mpr ⟨Or.inr ⟨by decide, _, hts (.classLink RL 37 "java/util/NoSuchElementException") (by decide +kernel), hN (xN_ISE, xN_NSE) (by decide +kernel)⟩, List.forall_mem_cons.mpr ⟨Or.inr ⟨by decide, _, hts (.classLink RL 39 "java/lang/IndexOutOfBoundsException") (by decide +kernel), hN (xN_ISE, xN_IOB) (by decide +kernel)⟩, fun _ h => absurd h List.not_mem_nil⟩⟩) rfl (by decide) (hts (.classLink RL 15 "java/lang/IllegalStateException") (by decide +kernel)) (va_Nw.use rfl (hG.2.2.2.1 _ xC_ISE)) hcell hcv hcl ?_
      refine lv_astore (lv' := [(4, .ref q), (0, .ref (am 0 0)), (1, .int (iZ x)), (2, .int (iZ y)), (3, .ref (am 9 0))]) hx hb dL_shift_21 hl (by decide) rfl (fun ls hl => ?_)
      refine z_iconst hx hb dL_shift_23 ?_
      exact ze_i (u' := (n, am, S)) (z := 3) hx hb hr rfl hI (by decide) (Or.inr (Or.inr (Or.inr (Or.inl ⟨rfl, hpx, rfl⟩)))) (Nat.le_of_ble_eq_true rfl) (Nat.le_of_ble_eq_true rfl) dL_shift_24 hlocks
    · refine vx_catch hown [⟨0, 10, 13, 37⟩, ⟨0, 10, 17, 39⟩, ⟨0, 10, 21, 15⟩] ⟨0, 10, 25, 41⟩ [] (htb.trans rfl) (List.forall_mem_cons.mpr ⟨Or.inr ⟨by decide, _, hts (.classLink RL 37 "java/util/NoSuchElementException") (by decide +kernel), hN (xN_UOE, xN_NSE) (by decide +kernel)⟩, List.forall_mem_cons.mpr ⟨Or.inr ⟨by decide, _, hts (.classLink RL 39 "java/lang/IndexOutOfBoundsException") (by decide +kernel), hN (xN_UOE, xN_IOB) (by decide +kernel)⟩, List.forall_mem_cons.mpr ⟨Or.inr ⟨by decide, _, hts (.classLink RL 15 "java/lang/IllegalStateException") (by decide +kernel), hN (xN_UOE, xN_ISE) (by decide +kernel)⟩, fun _ h => absurd h List.not_mem_nil⟩⟩⟩) rfl (by decide) (hts (.classLink RL 41 "java/lang/UnsupportedOperationException") (by decide +kernel)) (va_Nw.use rfl (hG.2.2.2.1 _ xC_UOE)) hcell hcv hcl ?_
      refine lv_astore (lv' := [(4, .ref q), (0, .ref (am 0 0)), (1, .int (iZ x)), (2, .int (iZ y)), (3, .ref (am 9 0))]) hx hb dL_shift_25 hl (by decide) rfl (fun ls hl => ?_)
      refine z_iconst hx hb dL_shift_27 ?_
      exact ze_i (u' := (n, am, S)) (z := 4) hx hb hr rfl hI (by decide) (Or.inr (Or.inr (Or.inr (Or.inr ⟨rfl, hpx, rfl⟩)))) (Nat.le_of_ble_eq_true rfl) (Nat.le_of_ble_eq_true rfl) dL_shift_28 hlocks
  · obtain ⟨hc0, rfl, rfl⟩ := hp
    refine z_i2l hx hb dL_shift_8 hz ?_
    refine zs_l (κ := 9) (i := 0) hx hb hK hI h9 rfl (by decide) (by decide) (by decide) dL_shift_9 (fun H locs hI => ?_)
    refine lv_goto (tgt := 29) hx hb dL_shift_10 (by decide) ?_
    refine z_iconst hx hb dL_shift_29 ?_
    exact ze_i (u' := (n, am, up3 (yShift S (S 8 x.toNat 7).toNat y.toNat x.toNat) 9 0 0 (S 0 0 11 + 1))) (z := 0) hx hb hr rfl hI (by decide) (Or.inl ⟨rfl, hc0, rfl⟩) (Nat.le_of_ble_eq_true rfl) (Nat.le_of_ble_eq_true rfl) dL_shift_30 hlocks
set_option maxHeartbeats 4000000 in
set_option maxRecDepth 100000 in
theorem c_L_dock (l : Launch) (hfl : l.stackTraces = false) (D : va_G) (cA : Nat → ClassId) (n : Nat → Nat) (am : ts_Am) (S : ts_St) (sz : Nat) (x d : Int) (hW : cW n S) (hx0 : iR x) (hd0 : iR d) (hcr : cR n S) (h9 : 0 < n 9) : Met l yL_dock wsL_dock ({ frames := 9, cells := 4, slots := 24, locals := 157 } : Room) (va_Pc [.ref (am 0 0), .int (iZ x), .int (iZ d), .ref (am 9 0)] (zPH TX D cA (n, am, S) sz)) (zQi TX D cA (n, am, S) sz (fun k u => (k = 0 ∧ ((0 ≤ x ∧ x < (n 8 : Int)) ∧ (0 ≤ d ∧ d < (n 7 : Int)) ∧ (0 ≤ S 8 x.toNat 7 ∧ yBefore S (S 8 x.toNat 7).toNat x.toNat = 0) ∧ yServe S d.toNat x.toNat) ∧ u = (n, am, up3 (yDock S (S 8 x.toNat 7).toNat d.toNat x.toNat) 9 0 0 (yDock S (S 8 x.toNat 7).toNat d.toNat x.toNat 8 x.toNat 6 + yDock S (S 8 x.toNat 7).toNat d.toNat x.toNat 8 x.toNat 3))) ∨ (k = 1 ∧ (¬ (0 ≤ x ∧ x < (n 8 : Int))) ∧ u = (n, am, S)) ∨ (k = 2 ∧ ((0 ≤ x ∧ x < (n 8 : Int)) ∧ ¬ (0 ≤ d ∧ d < (n 7 : Int))) ∧ u = (n, am, S)) ∨ (k = 3 ∧ ((0 ≤ x ∧ x < (n 8 : Int)) ∧ (0 ≤ d ∧ d < (n 7 : Int)) ∧ ¬ (0 ≤ S 8 x.toNat 7 ∧ yBefore S (S 8 x.toNat 7).toNat x.toNat = 0)) ∧ u = (n, am, S)) ∨ (k = 4 ∧ ((0 ≤ x ∧ x < (n 8 : Int)) ∧ (0 ≤ d ∧ d < (n 7 : Int)) ∧ (0 ≤ S 8 x.toNat 7 ∧ yBefore S (S 8 x.toNat 7).toNat x.toNat = 0) ∧ ¬ yServe S d.toNat x.toNat) ∧ u = (n, am, S)))) 4 24 (ts_A (n, am, S) sz) := by
  refine zMh_of (by decide) rfl (Nat.le_of_ble_eq_true rfl) ?_
  intro p e s m below meth c hx hb hr hts hown hlocks hml htb hK hG hN hsz H locs hI ls hl
  subst hsz
  have hown : s.vm.findClass RL = some m.cls := hown
  have hl : lv_has ls 5 [(0, .ref (am 0 0)), (1, .int (iZ x)), (2, .int (iZ d)), (3, .ref (am 9 0))] := hl
  have hvz : 0 < n 0 := hW.1.1
  refine lv_aload_n hx hb dL_dock_0 rfl (lv_at hl 3 rfl) ?_
  refine z_iconst hx hb dL_dock_1 ?_
  refine lv_aload_n hx hb dL_dock_2 rfl (lv_at hl 0 rfl) ?_
  refine lv_iload_n hx hb dL_dock_3 rfl (lv_at hl 1 rfl) ?_
  refine lv_iload_n hx hb dL_dock_4 rfl (lv_at hl 2 rfl) ?_
  refine zxh_i (zxV (As := [.int (iZ x), .int (iZ d)]) (rest := [.int (iZ 0), .ref (am 9 0)]) (κ := 0) (i := 0) ⟨hx, hb, hml, hown, hts⟩ (c_X4_dock l hfl D cA n am S H.size x d hW hx0 hd0 hcr) (cwV 2 hts gL_dock_X4_dock rfl rfl rfl (by decide +kernel) ⟨Nat.le_of_ble_eq_true rfl, Nat.le_of_ble_eq_true rfl⟩) hK hI hG hvz rfl rfl rfl hl.1 rfl (Nat.le_of_ble_eq_true rfl) dL_dock_5 ⟨Nat.le_of_ble_eq_true rfl, Nat.le_of_ble_eq_true rfl⟩) hI (fun E ce q H locs hpx hI hcell hcv hcl => ?_) (fun z u9 H locs hz hp hI => ?_)
  · rcases hpx with ⟨rfl, hpx⟩ | ⟨rfl, hpx⟩ | ⟨rfl, hpx⟩ | ⟨rfl, hpx⟩
    · refine vx_catch hown [] ⟨0, 10, 13, 37⟩ [⟨0, 10, 17, 39⟩, ⟨0, 10, 21, 15⟩, ⟨0, 10, 25, 41⟩] (htb.trans rfl) (fun _ h => absurd h List.not_mem_nil) rfl (by decide) (hts (.classLink RL 37 "java/util/NoSuchElementException") (by decide +kernel)) (va_Nw.use rfl (hG.2.2.2.1 _ xC_NSE)) hcell hcv hcl ?_
      refine lv_astore (lv' := [(4, .ref q), (0, .ref (am 0 0)), (1, .int (iZ x)), (2, .int (iZ d)), (3, .ref (am 9 0))]) hx hb dL_dock_13 hl (by decide) rfl (fun ls hl => ?_)
      refine z_iconst hx hb dL_dock_15 ?_
      exact ze_i (u' := (n, am, S)) (z := 1) hx hb hr rfl hI (by decide) (Or.inr (Or.inl ⟨rfl, hpx, rfl⟩)) (Nat.le_of_ble_eq_true rfl) (Nat.le_of_ble_eq_true rfl) dL_dock_16 hlocks
    · refine vx_catch hown [⟨0, 10, 13, 37⟩] ⟨0, 10, 17, 39⟩ [⟨0, 10, 21, 15⟩, ⟨0, 10, 25, 41⟩] (htb.trans rfl) (List.forall_mem_cons.mpr ⟨Or.inr ⟨by decide, _, hts (.classLink RL 37 "java/util/NoSuchElementException") (by decide +kernel), hN (xN_IOB, xN_NSE) (by decide +kernel)⟩, fun _ h => absurd h List.not_mem_nil⟩) rfl (by decide) (hts (.classLink RL 39 "java/lang/IndexOutOfBoundsException") (by decide +kernel)) (va_Nw.use rfl (hG.2.2.2.1 _ xC_IOB)) hcell hcv hcl ?_
      refine lv_astore (lv' := [(4, .ref q), (0, .ref (am 0 0)), (1, .int (iZ x)), (2, .int (iZ d)), (3, .ref (am 9 0))]) hx hb dL_dock_17 hl (by decide) rfl (fun ls hl => ?_)
      refine z_iconst hx hb dL_dock_19 ?_
      exact ze_i (u' := (n, am, S)) (z := 2) hx hb hr rfl hI (by decide) (Or.inr (Or.inr (Or.inl ⟨rfl, hpx, rfl⟩))) (Nat.le_of_ble_eq_true rfl) (Nat.le_of_ble_eq_true rfl) dL_dock_20 hlocks
    · refine vx_catch hown [⟨0, 10, 13, 37⟩, ⟨0, 10, 17, 39⟩] ⟨0, 10, 21, 15⟩ [⟨0, 10, 25, 41⟩] (htb.trans rfl) (List.forall_mem_cons.mpr ⟨Or.inr ⟨by decide, _, hts (.classLink RL 37 "java/util/NoSuchElementException") (by decide +kernel), hN (xN_ISE, xN_NSE) (by decide +kernel)⟩, List.forall_mem_cons.mpr ⟨Or.inr ⟨by decide, _, hts (.classLink RL 39 "java/lang/IndexOutOfBoundsException") (by decide +kernel), hN (xN_ISE, xN_IOB) (by decide +kernel)⟩, fun _ h => absurd h List.not_mem_nil⟩⟩) rfl (by decide) (hts (.classLink RL 15 "java/lang/IllegalStateException") (by decide +kernel)) (va_Nw.use rfl (hG.2.2.2.1 _ xC_ISE)) hcell hcv hcl ?_
      refine lv_astore (lv' := [(4, .ref q), (0, .ref (am 0 0)), (1, .int (iZ x)), (2, .int (iZ d)), (3, .ref (am 9 0))]) hx hb dL_dock_21 hl (by decide) rfl (fun ls hl => ?_)
      refine z_iconst hx hb dL_dock_23 ?_
      exact ze_i (u' := (n, am, S)) (z := 3) hx hb hr rfl hI (by decide) (Or.inr (Or.inr (Or.inr (Or.inl ⟨rfl, hpx, rfl⟩)))) (Nat.le_of_ble_eq_true rfl) (Nat.le_of_ble_eq_true rfl) dL_dock_24 hlocks
    · refine vx_catch hown [⟨0, 10, 13, 37⟩, ⟨0, 10, 17, 39⟩, ⟨0, 10, 21, 15⟩] ⟨0, 10, 25, 41⟩ [] (htb.trans rfl) (List.forall_mem_cons.mpr ⟨Or.inr ⟨by decide, _, hts (.classLink RL 37 "java/util/NoSuchElementException") (by decide +kernel), hN (xN_UOE, xN_NSE) (by decide +kernel)⟩, List.forall_mem_cons.mpr ⟨Or.inr ⟨by decide, _, hts (.classLink RL 39 "java/lang/IndexOutOfBoundsException") (by decide +kernel), hN (xN_UOE, xN_IOB) (by decide +kernel)⟩, List.forall_mem_cons.mpr ⟨Or.inr ⟨by decide, _, hts (.classLink RL 15 "java/lang/IllegalStateException") (by decide +kernel), hN (xN_UOE, xN_ISE) (by decide +kernel)⟩, fun _ h => absurd h List.not_mem_nil⟩⟩⟩) rfl (by decide) (hts (.classLink RL 41 "java/lang/UnsupportedOperationException") (by decide +kernel)) (va_Nw.use rfl (hG.2.2.2.1 _ xC_UOE)) hcell hcv hcl ?_
      refine lv_astore (lv' := [(4, .ref q), (0, .ref (am 0 0)), (1, .int (iZ x)), (2, .int (iZ d)), (3, .ref (am 9 0))]) hx hb dL_dock_25 hl (by decide) rfl (fun ls hl => ?_)
      refine z_iconst hx hb dL_dock_27 ?_
      exact ze_i (u' := (n, am, S)) (z := 4) hx hb hr rfl hI (by decide) (Or.inr (Or.inr (Or.inr (Or.inr ⟨rfl, hpx, rfl⟩)))) (Nat.le_of_ble_eq_true rfl) (Nat.le_of_ble_eq_true rfl) dL_dock_28 hlocks
  · obtain ⟨hc0, rfl, rfl⟩ := hp
    refine z_i2l hx hb dL_dock_8 hz ?_
    refine zs_l (κ := 9) (i := 0) hx hb hK hI h9 rfl (by decide) (by decide) (by decide) dL_dock_9 (fun H locs hI => ?_)
    refine lv_goto (tgt := 29) hx hb dL_dock_10 (by decide) ?_
    refine z_iconst hx hb dL_dock_29 ?_
    exact ze_i (u' := (n, am, up3 (yDock S (S 8 x.toNat 7).toNat d.toNat x.toNat) 9 0 0 (yDock S (S 8 x.toNat 7).toNat d.toNat x.toNat 8 x.toNat 6 + yDock S (S 8 x.toNat 7).toNat d.toNat x.toNat 8 x.toNat 3))) (z := 0) hx hb hr rfl hI (by decide) (Or.inl ⟨rfl, hc0, rfl⟩) (Nat.le_of_ble_eq_true rfl) (Nat.le_of_ble_eq_true rfl) dL_dock_30 hlocks
set_option maxHeartbeats 4000000 in
set_option maxRecDepth 100000 in
theorem c_L_leave (l : Launch) (hfl : l.stackTraces = false) (D : va_G) (cA : Nat → ClassId) (n : Nat → Nat) (am : ts_Am) (S : ts_St) (sz : Nat) (x : Int) (hW : cW n S) (hx0 : iR x) (hcr : cR n S) (h9 : 0 < n 9) : Met l yL_leave wsL_leave ({ frames := 8, cells := 2, slots := 12, locals := 136 } : Room) (va_Pc [.ref (am 0 0), .int (iZ x), .ref (am 9 0)] (zPH TX D cA (n, am, S) sz)) (zQi TX D cA (n, am, S) sz (fun k u => (k = 0 ∧ ((0 ≤ x ∧ x < (n 8 : Int)) ∧ 0 ≤ S 8 x.toNat 9 ∧ S 8 x.toNat 6 + S 8 x.toNat 3 ≤ S 0 0 10) ∧ u = (n, am, up3 (yLeave S x.toNat) 9 0 0 (yCharge (yLeave0 S x.toNat) x.toNat))) ∨ (k = 1 ∧ (¬ (0 ≤ x ∧ x < (n 8 : Int))) ∧ u = (n, am, S)) ∨ (k = 2 ∧ ((0 ≤ x ∧ x < (n 8 : Int)) ∧ S 8 x.toNat 9 < 0) ∧ u = (n, am, S)) ∨ (k = 3 ∧ ((0 ≤ x ∧ x < (n 8 : Int)) ∧ 0 ≤ S 8 x.toNat 9 ∧ S 0 0 10 < S 8 x.toNat 6 + S 8 x.toNat 3) ∧ u = (n, am, S)))) 2 12 (ts_A (n, am, S) sz) := by
  refine zMh_of (by decide) rfl (Nat.le_of_ble_eq_true rfl) ?_
  intro p e s m below meth c hx hb hr hts hown hlocks hml htb hK hG hN hsz H locs hI ls hl
  subst hsz
  have hown : s.vm.findClass RL = some m.cls := hown
  have hl : lv_has ls 4 [(0, .ref (am 0 0)), (1, .int (iZ x)), (2, .ref (am 9 0))] := hl
  have hvz : 0 < n 0 := hW.1.1
  refine lv_aload_n hx hb dL_leave_0 rfl (lv_at hl 2 rfl) ?_
  refine z_iconst hx hb dL_leave_1 ?_
  refine lv_aload_n hx hb dL_leave_2 rfl (lv_at hl 0 rfl) ?_
  refine lv_iload_n hx hb dL_leave_3 rfl (lv_at hl 1 rfl) ?_
  refine zxh_i (zxV (As := [.int (iZ x)]) (rest := [.int (iZ 0), .ref (am 9 0)]) (κ := 0) (i := 0) ⟨hx, hb, hml, hown, hts⟩ (c_X4_leave l hfl D cA n am S H.size x hW hx0 hcr) (cwV 1 hts gL_leave_X4_leave rfl rfl rfl (by decide +kernel) ⟨Nat.le_of_ble_eq_true rfl, Nat.le_of_ble_eq_true rfl⟩) hK hI hG hvz rfl rfl rfl hl.1 rfl (Nat.le_of_ble_eq_true rfl) dL_leave_4 ⟨Nat.le_of_ble_eq_true rfl, Nat.le_of_ble_eq_true rfl⟩) hI (fun E ce q H locs hpx hI hcell hcv hcl => ?_) (fun z u9 H locs hz hp hI => ?_)
  · rcases hpx with ⟨rfl, hpx⟩ | ⟨rfl, hpx⟩ | ⟨rfl, hpx⟩
    · refine vx_catch hown [] ⟨0, 9, 12, 37⟩ [⟨0, 9, 15, 15⟩, ⟨0, 9, 18, 41⟩] (htb.trans rfl) (fun _ h => absurd h List.not_mem_nil) rfl (by decide) (hts (.classLink RL 37 "java/util/NoSuchElementException") (by decide +kernel)) (va_Nw.use rfl (hG.2.2.2.1 _ xC_NSE)) hcell hcv hcl ?_
      refine lv_astore_n (lv' := [(3, .ref q), (0, .ref (am 0 0)), (1, .int (iZ x)), (2, .ref (am 9 0))]) hx hb dL_leave_12 rfl hl (by decide) rfl (fun ls hl => ?_)
      refine z_iconst hx hb dL_leave_13 ?_
      exact ze_i (u' := (n, am, S)) (z := 1) hx hb hr rfl hI (by decide) (Or.inr (Or.inl ⟨rfl, hpx, rfl⟩)) (Nat.le_of_ble_eq_true rfl) (Nat.le_of_ble_eq_true rfl) dL_leave_14 hlocks
    · refine vx_catch hown [⟨0, 9, 12, 37⟩] ⟨0, 9, 15, 15⟩ [⟨0, 9, 18, 41⟩] (htb.trans rfl) (List.forall_mem_cons.mpr ⟨Or.inr ⟨by decide, _, hts (.classLink RL 37 "java/util/NoSuchElementException") (by decide +kernel), hN (xN_ISE, xN_NSE) (by decide +kernel)⟩, fun _ h => absurd h List.not_mem_nil⟩) rfl (by decide) (hts (.classLink RL 15 "java/lang/IllegalStateException") (by decide +kernel)) (va_Nw.use rfl (hG.2.2.2.1 _ xC_ISE)) hcell hcv hcl ?_
      refine lv_astore_n (lv' := [(3, .ref q), (0, .ref (am 0 0)), (1, .int (iZ x)), (2, .ref (am 9 0))]) hx hb dL_leave_15 rfl hl (by decide) rfl (fun ls hl => ?_)
      refine z_iconst hx hb dL_leave_16 ?_
      exact ze_i (u' := (n, am, S)) (z := 2) hx hb hr rfl hI (by decide) (Or.inr (Or.inr (Or.inl ⟨rfl, hpx, rfl⟩))) (Nat.le_of_ble_eq_true rfl) (Nat.le_of_ble_eq_true rfl) dL_leave_17 hlocks
    · refine vx_catch hown [⟨0, 9, 12, 37⟩, ⟨0, 9, 15, 15⟩] ⟨0, 9, 18, 41⟩ [] (htb.trans rfl) (List.forall_mem_cons.mpr ⟨Or.inr ⟨by decide, _, hts (.classLink RL 37 "java/util/NoSuchElementException") (by decide +kernel), hN (xN_UOE, xN_NSE) (by decide +kernel)⟩, List.forall_mem_cons.mpr ⟨Or.inr ⟨by decide, _, hts (.classLink RL 15 "java/lang/IllegalStateException") (by decide +kernel), hN (xN_UOE, xN_ISE) (by decide +kernel)⟩, fun _ h => absurd h List.not_mem_nil⟩⟩) rfl (by decide) (hts (.classLink RL 41 "java/lang/UnsupportedOperationException") (by decide +kernel)) (va_Nw.use rfl (hG.2.2.2.1 _ xC_UOE)) hcell hcv hcl ?_
      refine lv_astore_n (lv' := [(3, .ref q), (0, .ref (am 0 0)), (1, .int (iZ x)), (2, .ref (am 9 0))]) hx hb dL_leave_18 rfl hl (by decide) rfl (fun ls hl => ?_)
      refine z_iconst hx hb dL_leave_19 ?_
      exact ze_i (u' := (n, am, S)) (z := 3) hx hb hr rfl hI (by decide) (Or.inr (Or.inr (Or.inr ⟨rfl, hpx, rfl⟩))) (Nat.le_of_ble_eq_true rfl) (Nat.le_of_ble_eq_true rfl) dL_leave_20 hlocks
  · obtain ⟨hc0, rfl, rfl⟩ := hp
    refine z_i2l hx hb dL_leave_7 hz ?_
    refine zs_l (κ := 9) (i := 0) hx hb hK hI h9 rfl (by decide) (by decide) (by decide) dL_leave_8 (fun H locs hI => ?_)
    refine lv_goto (tgt := 21) hx hb dL_leave_9 (by decide) ?_
    refine z_iconst hx hb dL_leave_21 ?_
    exact ze_i (u' := (n, am, up3 (yLeave S x.toNat) 9 0 0 (yCharge (yLeave0 S x.toNat) x.toNat))) (z := 0) hx hb hr rfl hI (by decide) (Or.inl ⟨rfl, hc0, rfl⟩) (Nat.le_of_ble_eq_true rfl) (Nat.le_of_ble_eq_true rfl) dL_leave_22 hlocks
set_option maxHeartbeats 4000000 in
set_option maxRecDepth 100000 in
theorem c_L_laneOf (l : Launch) (hfl : l.stackTraces = false) (D : va_G) (cA : Nat → ClassId) (n : Nat → Nat) (am : ts_Am) (S : ts_St) (sz : Nat) (x : Int) (hW : cW n S) (hx0 : iR x) (h9 : 0 < n 9) : Met l yL_laneOf wsL_laneOf ({ frames := 8, cells := 2, slots := 12, locals := 133 } : Room) (va_Pc [.ref (am 0 0), .int (iZ x), .ref (am 9 0)] (zPH TX D cA (n, am, S) sz)) (zQi TX D cA (n, am, S) sz (fun k u => (k = 0 ∧ ((0 ≤ x ∧ x < (n 8 : Int)) ∧ 0 ≤ S 8 x.toNat 7) ∧ u = (n, am, up3 (S) 9 0 0 (S 8 x.toNat 7))) ∨ (k = 1 ∧ (¬ (0 ≤ x ∧ x < (n 8 : Int))) ∧ u = (n, am, S)) ∨ (k = 2 ∧ ((0 ≤ x ∧ x < (n 8 : Int)) ∧ S 8 x.toNat 7 < 0) ∧ u = (n, am, S)))) 2 12 (ts_A (n, am, S) sz) := by
  refine zMh_of (by decide) rfl (Nat.le_of_ble_eq_true rfl) ?_
  intro p e s m below meth c hx hb hr hts hown hlocks hml htb hK hG hN hsz H locs hI ls hl
  subst hsz
  have hown : s.vm.findClass RL = some m.cls := hown
  have hl : lv_has ls 4 [(0, .ref (am 0 0)), (1, .int (iZ x)), (2, .ref (am 9 0))] := hl
  have hvz : 0 < n 0 := hW.1.1
  refine lv_aload_n hx hb dL_laneOf_0 rfl (lv_at hl 2 rfl) ?_
  refine z_iconst hx hb dL_laneOf_1 ?_
  refine lv_aload_n hx hb dL_laneOf_2 rfl (lv_at hl 0 rfl) ?_
  refine lv_iload_n hx hb dL_laneOf_3 rfl (lv_at hl 1 rfl) ?_
  refine zxh_i (zxV (As := [.int (iZ x)]) (rest := [.int (iZ 0), .ref (am 9 0)]) (κ := 0) (i := 0) ⟨hx, hb, hml, hown, hts⟩ (c_X4_laneOf l hfl D cA n am S H.size x hW hx0) (cwV 1 hts gL_laneOf_X4_laneOf rfl rfl rfl (by decide +kernel) ⟨Nat.le_of_ble_eq_true rfl, Nat.le_of_ble_eq_true rfl⟩) hK hI hG hvz rfl rfl rfl hl.1 rfl (Nat.le_of_ble_eq_true rfl) dL_laneOf_4 ⟨Nat.le_of_ble_eq_true rfl, Nat.le_of_ble_eq_true rfl⟩) hI (fun E ce q H locs hpx hI hcell hcv hcl => ?_) (fun z u9 H locs hz hp hI => ?_)
  · rcases hpx with ⟨rfl, hpx⟩ | ⟨rfl, hpx⟩
    · refine vx_catch hown [] ⟨0, 9, 12, 37⟩ [⟨0, 9, 15, 15⟩] (htb.trans rfl) (fun _ h => absurd h List.not_mem_nil) rfl (by decide) (hts (.classLink RL 37 "java/util/NoSuchElementException") (by decide +kernel)) (va_Nw.use rfl (hG.2.2.2.1 _ xC_NSE)) hcell hcv hcl ?_
      refine lv_astore_n (lv' := [(3, .ref q), (0, .ref (am 0 0)), (1, .int (iZ x)), (2, .ref (am 9 0))]) hx hb dL_laneOf_12 rfl hl (by decide) rfl (fun ls hl => ?_)
      refine z_iconst hx hb dL_laneOf_13 ?_
      exact ze_i (u' := (n, am, S)) (z := 1) hx hb hr rfl hI (by decide) (Or.inr (Or.inl ⟨rfl, hpx, rfl⟩)) (Nat.le_of_ble_eq_true rfl) (Nat.le_of_ble_eq_true rfl) dL_laneOf_14 hlocks
    · refine vx_catch hown [⟨0, 9, 12, 37⟩] ⟨0, 9, 15, 15⟩ [] (htb.trans rfl) (List.forall_mem_cons.mpr ⟨Or.inr ⟨by decide, _, hts (.classLink RL 37 "java/util/NoSuchElementException") (by decide +kernel), hN (xN_ISE, xN_NSE) (by decide +kernel)⟩, fun _ h => absurd h List.not_mem_nil⟩) rfl (by decide) (hts (.classLink RL 15 "java/lang/IllegalStateException") (by decide +kernel)) (va_Nw.use rfl (hG.2.2.2.1 _ xC_ISE)) hcell hcv hcl ?_
      refine lv_astore_n (lv' := [(3, .ref q), (0, .ref (am 0 0)), (1, .int (iZ x)), (2, .ref (am 9 0))]) hx hb dL_laneOf_15 rfl hl (by decide) rfl (fun ls hl => ?_)
      refine z_iconst hx hb dL_laneOf_16 ?_
      exact ze_i (u' := (n, am, S)) (z := 2) hx hb hr rfl hI (by decide) (Or.inr (Or.inr ⟨rfl, hpx, rfl⟩)) (Nat.le_of_ble_eq_true rfl) (Nat.le_of_ble_eq_true rfl) dL_laneOf_17 hlocks
  · obtain ⟨hc0, rfl, rfl⟩ := hp
    refine z_i2l hx hb dL_laneOf_7 hz ?_
    refine zs_l (κ := 9) (i := 0) hx hb hK hI h9 rfl (by decide) (by decide) (by decide) dL_laneOf_8 (fun H locs hI => ?_)
    refine lv_goto (tgt := 18) hx hb dL_laneOf_9 (by decide) ?_
    refine z_iconst hx hb dL_laneOf_18 ?_
    exact ze_i (u' := (n, am, up3 (S) 9 0 0 (S 8 x.toNat 7))) (z := 0) hx hb hr rfl hI (by decide) (Or.inl ⟨rfl, hc0, rfl⟩) (Nat.le_of_ble_eq_true rfl) (Nat.le_of_ble_eq_true rfl) dL_laneOf_19 hlocks
set_option maxHeartbeats 4000000 in
set_option maxRecDepth 100000 in
theorem c_L_blockers (l : Launch) (hfl : l.stackTraces = false) (D : va_G) (cA : Nat → ClassId) (n : Nat → Nat) (am : ts_Am) (S : ts_St) (sz : Nat) (x : Int) (hW : cW n S) (hx0 : iR x) (h9 : 0 < n 9) : Met l yL_blockers wsL_blockers ({ frames := 8, cells := 2, slots := 12, locals := 134 } : Room) (va_Pc [.ref (am 0 0), .int (iZ x), .ref (am 9 0)] (zPH TX D cA (n, am, S) sz)) (zQi TX D cA (n, am, S) sz (fun k u => (k = 0 ∧ ((0 ≤ x ∧ x < (n 8 : Int)) ∧ 0 ≤ S 8 x.toNat 7) ∧ u = (n, am, up3 (S) 9 0 0 (yBefore S (S 8 x.toNat 7).toNat x.toNat))) ∨ (k = 1 ∧ (¬ (0 ≤ x ∧ x < (n 8 : Int))) ∧ u = (n, am, S)) ∨ (k = 2 ∧ ((0 ≤ x ∧ x < (n 8 : Int)) ∧ S 8 x.toNat 7 < 0) ∧ u = (n, am, S)))) 2 12 (ts_A (n, am, S) sz) := by
  refine zMh_of (by decide) rfl (Nat.le_of_ble_eq_true rfl) ?_
  intro p e s m below meth c hx hb hr hts hown hlocks hml htb hK hG hN hsz H locs hI ls hl
  subst hsz
  have hown : s.vm.findClass RL = some m.cls := hown
  have hl : lv_has ls 4 [(0, .ref (am 0 0)), (1, .int (iZ x)), (2, .ref (am 9 0))] := hl
  have hvz : 0 < n 0 := hW.1.1
  refine lv_aload_n hx hb dL_blockers_0 rfl (lv_at hl 2 rfl) ?_
  refine z_iconst hx hb dL_blockers_1 ?_
  refine lv_aload_n hx hb dL_blockers_2 rfl (lv_at hl 0 rfl) ?_
  refine lv_iload_n hx hb dL_blockers_3 rfl (lv_at hl 1 rfl) ?_
  refine zxh_i (zxV (As := [.int (iZ x)]) (rest := [.int (iZ 0), .ref (am 9 0)]) (κ := 0) (i := 0) ⟨hx, hb, hml, hown, hts⟩ (c_X4_blockers l hfl D cA n am S H.size x hW hx0) (cwV 1 hts gL_blockers_X4_blockers rfl rfl rfl (by decide +kernel) ⟨Nat.le_of_ble_eq_true rfl, Nat.le_of_ble_eq_true rfl⟩) hK hI hG hvz rfl rfl rfl hl.1 rfl (Nat.le_of_ble_eq_true rfl) dL_blockers_4 ⟨Nat.le_of_ble_eq_true rfl, Nat.le_of_ble_eq_true rfl⟩) hI (fun E ce q H locs hpx hI hcell hcv hcl => ?_) (fun z u9 H locs hz hp hI => ?_)
  · rcases hpx with ⟨rfl, hpx⟩ | ⟨rfl, hpx⟩
    · refine vx_catch hown [] ⟨0, 9, 12, 37⟩ [⟨0, 9, 15, 15⟩] (htb.trans rfl) (fun _ h => absurd h List.not_mem_nil) rfl (by decide) (hts (.classLink RL 37 "java/util/NoSuchElementException") (by decide +kernel)) (va_Nw.use rfl (hG.2.2.2.1 _ xC_NSE)) hcell hcv hcl ?_
      refine lv_astore_n (lv' := [(3, .ref q), (0, .ref (am 0 0)), (1, .int (iZ x)), (2, .ref (am 9 0))]) hx hb dL_blockers_12 rfl hl (by decide) rfl (fun ls hl => ?_)
      refine z_iconst hx hb dL_blockers_13 ?_
      exact ze_i (u' := (n, am, S)) (z := 1) hx hb hr rfl hI (by decide) (Or.inr (Or.inl ⟨rfl, hpx, rfl⟩)) (Nat.le_of_ble_eq_true rfl) (Nat.le_of_ble_eq_true rfl) dL_blockers_14 hlocks
    · refine vx_catch hown [⟨0, 9, 12, 37⟩] ⟨0, 9, 15, 15⟩ [] (htb.trans rfl) (List.forall_mem_cons.mpr ⟨Or.inr ⟨by decide, _, hts (.classLink RL 37 "java/util/NoSuchElementException") (by decide +kernel), hN (xN_ISE, xN_NSE) (by decide +kernel)⟩, fun _ h => absurd h List.not_mem_nil⟩) rfl (by decide) (hts (.classLink RL 15 "java/lang/IllegalStateException") (by decide +kernel)) (va_Nw.use rfl (hG.2.2.2.1 _ xC_ISE)) hcell hcv hcl ?_
      refine lv_astore_n (lv' := [(3, .ref q), (0, .ref (am 0 0)), (1, .int (iZ x)), (2, .ref (am 9 0))]) hx hb dL_blockers_15 rfl hl (by decide) rfl (fun ls hl => ?_)
      refine z_iconst hx hb dL_blockers_16 ?_
      exact ze_i (u' := (n, am, S)) (z := 2) hx hb hr rfl hI (by decide) (Or.inr (Or.inr ⟨rfl, hpx, rfl⟩)) (Nat.le_of_ble_eq_true rfl) (Nat.le_of_ble_eq_true rfl) dL_blockers_17 hlocks
  · obtain ⟨hc0, rfl, rfl⟩ := hp
    refine z_i2l hx hb dL_blockers_7 hz ?_
    refine zs_l (κ := 9) (i := 0) hx hb hK hI h9 rfl (by decide) (by decide) (by decide) dL_blockers_8 (fun H locs hI => ?_)
    refine lv_goto (tgt := 18) hx hb dL_blockers_9 (by decide) ?_
    refine z_iconst hx hb dL_blockers_18 ?_
    exact ze_i (u' := (n, am, up3 (S) 9 0 0 (yBefore S (S 8 x.toNat 7).toNat x.toNat))) (z := 0) hx hb hr rfl hI (by decide) (Or.inl ⟨rfl, hc0, rfl⟩) (Nat.le_of_ble_eq_true rfl) (Nat.le_of_ble_eq_true rfl) dL_blockers_19 hlocks
set_option maxHeartbeats 4000000 in
set_option maxRecDepth 100000 in
theorem c_L_trailerAt (l : Launch) (hfl : l.stackTraces = false) (D : va_G) (cA : Nat → ClassId) (n : Nat → Nat) (am : ts_Am) (S : ts_St) (sz : Nat) (y x : Int) (hW : cW n S) (hy0 : iR y) (hx0 : iR x) (h9 : 0 < n 9) : Met l yL_trailerAt wsL_trailerAt ({ frames := 8, cells := 2, slots := 12, locals := 135 } : Room) (va_Pc [.ref (am 0 0), .int (iZ y), .int (iZ x), .ref (am 9 0)] (zPH TX D cA (n, am, S) sz)) (zQi TX D cA (n, am, S) sz (fun k u => (k = 0 ∧ ((0 ≤ y ∧ y < (n 5 : Int)) ∧ 0 ≤ yExit S y.toNat x) ∧ u = (n, am, up3 (S) 9 0 0 (yExit S y.toNat x))) ∨ (k = 1 ∧ (¬ (0 ≤ y ∧ y < (n 5 : Int))) ∧ u = (n, am, S)) ∨ (k = 2 ∧ ((0 ≤ y ∧ y < (n 5 : Int)) ∧ yExit S y.toNat x < 0) ∧ u = (n, am, S)))) 2 12 (ts_A (n, am, S) sz) := by
  refine zMh_of (by decide) rfl (Nat.le_of_ble_eq_true rfl) ?_
  intro p e s m below meth c hx hb hr hts hown hlocks hml htb hK hG hN hsz H locs hI ls hl
  subst hsz
  have hown : s.vm.findClass RL = some m.cls := hown
  have hl : lv_has ls 5 [(0, .ref (am 0 0)), (1, .int (iZ y)), (2, .int (iZ x)), (3, .ref (am 9 0))] := hl
  have hvz : 0 < n 0 := hW.1.1
  refine lv_aload_n hx hb dL_trailerAt_0 rfl (lv_at hl 3 rfl) ?_
  refine z_iconst hx hb dL_trailerAt_1 ?_
  refine lv_aload_n hx hb dL_trailerAt_2 rfl (lv_at hl 0 rfl) ?_
  refine lv_iload_n hx hb dL_trailerAt_3 rfl (lv_at hl 1 rfl) ?_
  refine lv_iload_n hx hb dL_trailerAt_4 rfl (lv_at hl 2 rfl) ?_
  refine zxh_i (zxV (As := [.int (iZ y), .int (iZ x)]) (rest := [.int (iZ 0), .ref (am 9 0)]) (κ := 0) (i := 0) ⟨hx, hb, hml, hown, hts⟩ (c_X4_trailerAt l hfl D cA n am S H.size y x hW hy0 hx0) (cwV 2 hts gL_trailerAt_X4_trailerAt rfl rfl rfl (by decide +kernel) ⟨Nat.le_of_ble_eq_true rfl, Nat.le_of_ble_eq_true rfl⟩) hK hI hG hvz rfl rfl rfl hl.1 rfl (Nat.le_of_ble_eq_true rfl) dL_trailerAt_5 ⟨Nat.le_of_ble_eq_true rfl, Nat.le_of_ble_eq_true rfl⟩) hI (fun E ce q H locs hpx hI hcell hcv hcl => ?_) (fun z u9 H locs hz hp hI => ?_)
  · rcases hpx with ⟨rfl, hpx⟩ | ⟨rfl, hpx⟩
    · refine vx_catch hown [] ⟨0, 10, 13, 39⟩ [⟨0, 10, 17, 37⟩] (htb.trans rfl) (fun _ h => absurd h List.not_mem_nil) rfl (by decide) (hts (.classLink RL 39 "java/lang/IndexOutOfBoundsException") (by decide +kernel)) (va_Nw.use rfl (hG.2.2.2.1 _ xC_IOB)) hcell hcv hcl ?_
      refine lv_astore (lv' := [(4, .ref q), (0, .ref (am 0 0)), (1, .int (iZ y)), (2, .int (iZ x)), (3, .ref (am 9 0))]) hx hb dL_trailerAt_13 hl (by decide) rfl (fun ls hl => ?_)
      refine z_iconst hx hb dL_trailerAt_15 ?_
      exact ze_i (u' := (n, am, S)) (z := 1) hx hb hr rfl hI (by decide) (Or.inr (Or.inl ⟨rfl, hpx, rfl⟩)) (Nat.le_of_ble_eq_true rfl) (Nat.le_of_ble_eq_true rfl) dL_trailerAt_16 hlocks
    · refine vx_catch hown [⟨0, 10, 13, 39⟩] ⟨0, 10, 17, 37⟩ [] (htb.trans rfl) (List.forall_mem_cons.mpr ⟨Or.inr ⟨by decide, _, hts (.classLink RL 39 "java/lang/IndexOutOfBoundsException") (by decide +kernel), hN (xN_NSE, xN_IOB) (by decide +kernel)⟩, fun _ h => absurd h List.not_mem_nil⟩) rfl (by decide) (hts (.classLink RL 37 "java/util/NoSuchElementException") (by decide +kernel)) (va_Nw.use rfl (hG.2.2.2.1 _ xC_NSE)) hcell hcv hcl ?_
      refine lv_astore (lv' := [(4, .ref q), (0, .ref (am 0 0)), (1, .int (iZ y)), (2, .int (iZ x)), (3, .ref (am 9 0))]) hx hb dL_trailerAt_17 hl (by decide) rfl (fun ls hl => ?_)
      refine z_iconst hx hb dL_trailerAt_19 ?_
      exact ze_i (u' := (n, am, S)) (z := 2) hx hb hr rfl hI (by decide) (Or.inr (Or.inr ⟨rfl, hpx, rfl⟩)) (Nat.le_of_ble_eq_true rfl) (Nat.le_of_ble_eq_true rfl) dL_trailerAt_20 hlocks
  · obtain ⟨hc0, rfl, rfl⟩ := hp
    refine z_i2l hx hb dL_trailerAt_8 hz ?_
    refine zs_l (κ := 9) (i := 0) hx hb hK hI h9 rfl (by decide) (by decide) (by decide) dL_trailerAt_9 (fun H locs hI => ?_)
    refine lv_goto (tgt := 21) hx hb dL_trailerAt_10 (by decide) ?_
    refine z_iconst hx hb dL_trailerAt_21 ?_
    exact ze_i (u' := (n, am, up3 (S) 9 0 0 (yExit S y.toNat x))) (z := 0) hx hb hr rfl hI (by decide) (Or.inl ⟨rfl, hc0, rfl⟩) (Nat.le_of_ble_eq_true rfl) (Nat.le_of_ble_eq_true rfl) dL_trailerAt_22 hlocks
set_option maxHeartbeats 4000000 in
set_option maxRecDepth 100000 in
theorem c_L_freeDoor (l : Launch) (hfl : l.stackTraces = false) (D : va_G) (cA : Nat → ClassId) (n : Nat → Nat) (am : ts_Am) (S : ts_St) (sz : Nat) (x : Int) (hW : cW n S) (hx0 : iR x) (h9 : 0 < n 9) : Met l yL_freeDoor wsL_freeDoor ({ frames := 8, cells := 2, slots := 12, locals := 137 } : Room) (va_Pc [.ref (am 0 0), .int (iZ x), .ref (am 9 0)] (zPH TX D cA (n, am, S) sz)) (zQi TX D cA (n, am, S) sz (fun k u => (k = 0 ∧ ((0 ≤ x ∧ x < (n 8 : Int)) ∧ 0 ≤ yFree S x.toNat (n 7)) ∧ u = (n, am, up3 (S) 9 0 0 (yFree S x.toNat (n 7)))) ∨ (k = 1 ∧ (¬ (0 ≤ x ∧ x < (n 8 : Int))) ∧ u = (n, am, S)) ∨ (k = 2 ∧ ((0 ≤ x ∧ x < (n 8 : Int)) ∧ yFree S x.toNat (n 7) < 0) ∧ u = (n, am, S)))) 2 12 (ts_A (n, am, S) sz) := by
  refine zMh_of (by decide) rfl (Nat.le_of_ble_eq_true rfl) ?_
  intro p e s m below meth c hx hb hr hts hown hlocks hml htb hK hG hN hsz H locs hI ls hl
  subst hsz
  have hown : s.vm.findClass RL = some m.cls := hown
  have hl : lv_has ls 4 [(0, .ref (am 0 0)), (1, .int (iZ x)), (2, .ref (am 9 0))] := hl
  have hvz : 0 < n 0 := hW.1.1
  refine lv_aload_n hx hb dL_freeDoor_0 rfl (lv_at hl 2 rfl) ?_
  refine z_iconst hx hb dL_freeDoor_1 ?_
  refine lv_aload_n hx hb dL_freeDoor_2 rfl (lv_at hl 0 rfl) ?_
  refine lv_iload_n hx hb dL_freeDoor_3 rfl (lv_at hl 1 rfl) ?_
  refine zxh_i (zxV (As := [.int (iZ x)]) (rest := [.int (iZ 0), .ref (am 9 0)]) (κ := 0) (i := 0) ⟨hx, hb, hml, hown, hts⟩ (c_X4_freeDoor l hfl D cA n am S H.size x hW hx0) (cwV 1 hts gL_freeDoor_X4_freeDoor rfl rfl rfl (by decide +kernel) ⟨Nat.le_of_ble_eq_true rfl, Nat.le_of_ble_eq_true rfl⟩) hK hI hG hvz rfl rfl rfl hl.1 rfl (Nat.le_of_ble_eq_true rfl) dL_freeDoor_4 ⟨Nat.le_of_ble_eq_true rfl, Nat.le_of_ble_eq_true rfl⟩) hI (fun E ce q H locs hpx hI hcell hcv hcl => ?_) (fun z u9 H locs hz hp hI => ?_)
  · rcases hpx with ⟨rfl, hpx⟩ | ⟨rfl, hpx⟩
    · refine vx_catch hown [] ⟨0, 9, 12, 37⟩ [⟨0, 9, 15, 15⟩] (htb.trans rfl) (fun _ h => absurd h List.not_mem_nil) rfl (by decide) (hts (.classLink RL 37 "java/util/NoSuchElementException") (by decide +kernel)) (va_Nw.use rfl (hG.2.2.2.1 _ xC_NSE)) hcell hcv hcl ?_
      refine lv_astore_n (lv' := [(3, .ref q), (0, .ref (am 0 0)), (1, .int (iZ x)), (2, .ref (am 9 0))]) hx hb dL_freeDoor_12 rfl hl (by decide) rfl (fun ls hl => ?_)
      refine z_iconst hx hb dL_freeDoor_13 ?_
      exact ze_i (u' := (n, am, S)) (z := 1) hx hb hr rfl hI (by decide) (Or.inr (Or.inl ⟨rfl, hpx, rfl⟩)) (Nat.le_of_ble_eq_true rfl) (Nat.le_of_ble_eq_true rfl) dL_freeDoor_14 hlocks
    · refine vx_catch hown [⟨0, 9, 12, 37⟩] ⟨0, 9, 15, 15⟩ [] (htb.trans rfl) (List.forall_mem_cons.mpr ⟨Or.inr ⟨by decide, _, hts (.classLink RL 37 "java/util/NoSuchElementException") (by decide +kernel), hN (xN_ISE, xN_NSE) (by decide +kernel)⟩, fun _ h => absurd h List.not_mem_nil⟩) rfl (by decide) (hts (.classLink RL 15 "java/lang/IllegalStateException") (by decide +kernel)) (va_Nw.use rfl (hG.2.2.2.1 _ xC_ISE)) hcell hcv hcl ?_
      refine lv_astore_n (lv' := [(3, .ref q), (0, .ref (am 0 0)), (1, .int (iZ x)), (2, .ref (am 9 0))]) hx hb dL_freeDoor_15 rfl hl (by decide) rfl (fun ls hl => ?_)
      refine z_iconst hx hb dL_freeDoor_16 ?_
      exact ze_i (u' := (n, am, S)) (z := 2) hx hb hr rfl hI (by decide) (Or.inr (Or.inr ⟨rfl, hpx, rfl⟩)) (Nat.le_of_ble_eq_true rfl) (Nat.le_of_ble_eq_true rfl) dL_freeDoor_17 hlocks
  · obtain ⟨hc0, rfl, rfl⟩ := hp
    refine z_i2l hx hb dL_freeDoor_7 hz ?_
    refine zs_l (κ := 9) (i := 0) hx hb hK hI h9 rfl (by decide) (by decide) (by decide) dL_freeDoor_8 (fun H locs hI => ?_)
    refine lv_goto (tgt := 18) hx hb dL_freeDoor_9 (by decide) ?_
    refine z_iconst hx hb dL_freeDoor_18 ?_
    exact ze_i (u' := (n, am, up3 (S) 9 0 0 (yFree S x.toNat (n 7)))) (z := 0) hx hb hr rfl hI (by decide) (Or.inl ⟨rfl, hc0, rfl⟩) (Nat.le_of_ble_eq_true rfl) (Nat.le_of_ble_eq_true rfl) dL_freeDoor_19 hlocks
set_option maxHeartbeats 4000000 in
set_option maxRecDepth 100000 in
theorem c_L_fewestMoves (l : Launch) (hfl : l.stackTraces = false) (D : va_G) (cA : Nat → ClassId) (n : Nat → Nat) (am : ts_Am) (S : ts_St) (sz : Nat) (x : Int) (Z : ts_St) (hW : cW n S) (hx0 : iR x) (hcr : cR n S) (hJ : cJ n S) (hZ : ∀ x : Nat, 0 ≤ Z 15 0 x ∧ Z 15 0 x ≤ 3) (h9 : 0 < n 9) : Met l yL_fewestMoves wsL_fewestMoves ({ frames := 8, cells := 3, slots := 18, locals := 199 } : Room) (va_Pc [.ref (am 0 0), .int (iZ x), .ref (am 9 0)] (zPH TX D cA (n, am, S) sz)) (zQi TX D cA (n, am, S) sz (fun k u => (k = 0 ∧ ((0 ≤ x ∧ x < (n 8 : Int)) ∧ 0 ≤ S 8 x.toNat 7) ∧ ∃ (S9 : ts_St) (d : Nat), u = (n, am, up3 S9 9 0 0 (d : Int)) ∧ cEq n S S9 ∧ d ≤ 4 ∧ mRch d (yV n S Z) x ∧ ∀ q : Nat, q < d → ¬ mRch q (yV n S Z) x) ∨ (k = 1 ∧ ¬ (0 ≤ x ∧ x < (n 8 : Int)) ∧ u = (n, am, S)) ∨ (k = 2 ∧ (0 ≤ x ∧ x < (n 8 : Int)) ∧ S 8 x.toNat 7 < 0 ∧ u = (n, am, S)) ∨ (k = 3 ∧ ((0 ≤ x ∧ x < (n 8 : Int)) ∧ 0 ≤ S 8 x.toNat 7) ∧ (∃ S9 : ts_St, u = (n, am, S9) ∧ cEq n S S9) ∧ ∀ q : Nat, q ≤ 4 → ¬ mRch q (yV n S Z) x))) 3 18 (ts_A (n, am, S) sz) := by
  refine zMh_of (by decide) rfl (Nat.le_of_ble_eq_true rfl) ?_
  intro p e s m below meth c hx hb hr hts hown hlocks hml htb hK hG hN hsz H locs hI ls hl
  subst hsz
  have hown : s.vm.findClass RL = some m.cls := hown
  have hl : lv_has ls 4 [(0, .ref (am 0 0)), (1, .int (iZ x)), (2, .ref (am 9 0))] := hl
  have hvz : 0 < n 0 := hW.1.1
  refine lv_aload_n hx hb dL_fewestMoves_0 rfl (lv_at hl 2 rfl) ?_
  refine z_iconst hx hb dL_fewestMoves_1 ?_
  refine lv_aload_n hx hb dL_fewestMoves_2 rfl (lv_at hl 0 rfl) ?_
  refine lv_iload_n hx hb dL_fewestMoves_3 rfl (lv_at hl 1 rfl) ?_
  refine zxhE_i (zxV (As := [.int (iZ x)]) (rest := [.int (iZ 0), .ref (am 9 0)]) (κ := 0) (i := 0) ⟨hx, hb, hml, hown, hts⟩ (c_X4_fewestMoves l hfl D cA n am S H.size x Z hW hx0 hcr hJ hZ) (cwV 1 hts gL_fewestMoves_X4_fewestMoves rfl rfl rfl (by decide +kernel) ⟨Nat.le_of_ble_eq_true rfl, Nat.le_of_ble_eq_true rfl⟩) hK hI hG hvz rfl rfl rfl hl.1 rfl (Nat.le_of_ble_eq_true rfl) dL_fewestMoves_4 ⟨Nat.le_of_ble_eq_true rfl, Nat.le_of_ble_eq_true rfl⟩) hI (fun E ce q u8 H locs hpx hI hcell hcv hcl => ?_) (fun z u9 H locs hz hp hI => ?_)
  · rcases hpx with ⟨rfl, hpx⟩ | ⟨rfl, hpx⟩ | ⟨rfl, hpx⟩
    · refine vx_catch hown [] ⟨0, 9, 12, 37⟩ [⟨0, 9, 15, 15⟩, ⟨0, 9, 18, 41⟩] (htb.trans rfl) (fun _ h => absurd h List.not_mem_nil) rfl (by decide) (hts (.classLink RL 37 "java/util/NoSuchElementException") (by decide +kernel)) (va_Nw.use rfl (hG.2.2.2.1 _ xC_NSE)) hcell hcv hcl ?_
      refine lv_astore_n (lv' := [(3, .ref q), (0, .ref (am 0 0)), (1, .int (iZ x)), (2, .ref (am 9 0))]) hx hb dL_fewestMoves_12 rfl hl (by decide) rfl (fun ls hl => ?_)
      refine z_iconst hx hb dL_fewestMoves_13 ?_
      exact ze_i (u' := u8) (z := 1) hx hb hr rfl hI (by decide) (Or.inr (Or.inl ⟨rfl, hpx⟩)) (Nat.le_of_ble_eq_true rfl) (Nat.le_of_ble_eq_true rfl) dL_fewestMoves_14 hlocks
    · refine vx_catch hown [⟨0, 9, 12, 37⟩] ⟨0, 9, 15, 15⟩ [⟨0, 9, 18, 41⟩] (htb.trans rfl) (List.forall_mem_cons.mpr ⟨Or.inr ⟨by decide, _, hts (.classLink RL 37 "java/util/NoSuchElementException") (by decide +kernel), hN (xN_ISE, xN_NSE) (by decide +kernel)⟩, fun _ h => absurd h List.not_mem_nil⟩) rfl (by decide) (hts (.classLink RL 15 "java/lang/IllegalStateException") (by decide +kernel)) (va_Nw.use rfl (hG.2.2.2.1 _ xC_ISE)) hcell hcv hcl ?_
      refine lv_astore_n (lv' := [(3, .ref q), (0, .ref (am 0 0)), (1, .int (iZ x)), (2, .ref (am 9 0))]) hx hb dL_fewestMoves_15 rfl hl (by decide) rfl (fun ls hl => ?_)
      refine z_iconst hx hb dL_fewestMoves_16 ?_
      exact ze_i (u' := u8) (z := 2) hx hb hr rfl hI (by decide) (Or.inr (Or.inr (Or.inl ⟨rfl, hpx⟩))) (Nat.le_of_ble_eq_true rfl) (Nat.le_of_ble_eq_true rfl) dL_fewestMoves_17 hlocks
    · refine vx_catch hown [⟨0, 9, 12, 37⟩, ⟨0, 9, 15, 15⟩] ⟨0, 9, 18, 41⟩ [] (htb.trans rfl) (List.forall_mem_cons.mpr ⟨Or.inr ⟨by decide, _, hts (.classLink RL 37 "java/util/NoSuchElementException") (by decide +kernel), hN (xN_UOE, xN_NSE) (by decide +kernel)⟩, List.forall_mem_cons.mpr ⟨Or.inr ⟨by decide, _, hts (.classLink RL 15 "java/lang/IllegalStateException") (by decide +kernel), hN (xN_UOE, xN_ISE) (by decide +kernel)⟩, fun _ h => absurd h List.not_mem_nil⟩⟩) rfl (by decide) (hts (.classLink RL 41 "java/lang/UnsupportedOperationException") (by decide +kernel)) (va_Nw.use rfl (hG.2.2.2.1 _ xC_UOE)) hcell hcv hcl ?_
      refine lv_astore_n (lv' := [(3, .ref q), (0, .ref (am 0 0)), (1, .int (iZ x)), (2, .ref (am 9 0))]) hx hb dL_fewestMoves_18 rfl hl (by decide) rfl (fun ls hl => ?_)
      refine z_iconst hx hb dL_fewestMoves_19 ?_
      exact ze_i (u' := u8) (z := 3) hx hb hr rfl hI (by decide) (Or.inr (Or.inr (Or.inr ⟨rfl, hpx⟩))) (Nat.le_of_ble_eq_true rfl) (Nat.le_of_ble_eq_true rfl) dL_fewestMoves_20 hlocks
  · obtain ⟨hc0, S9, d, rfl, h1, h2, rfl, h3⟩ := hp
    refine z_i2l hx hb dL_fewestMoves_7 hz ?_
    refine zs_l (κ := 9) (i := 0) hx hb hK hI h9 rfl (by decide) (by decide) (by decide) dL_fewestMoves_8 (fun H locs hI => ?_)
    refine lv_goto (tgt := 21) hx hb dL_fewestMoves_9 (by decide) ?_
    refine z_iconst hx hb dL_fewestMoves_21 ?_
    exact ze_i (u' := (n, am, up3 (S9) 9 0 0 ((d : Int)))) (z := 0) hx hb hr rfl hI (by decide) (Or.inl ⟨rfl, hc0, S9, d, rfl, h1, h2, h3⟩) (Nat.le_of_ble_eq_true rfl) (Nat.le_of_ble_eq_true rfl) dL_fewestMoves_22 hlocks
set_option maxHeartbeats 4000000 in
set_option maxRecDepth 100000 in
theorem c_L_fewestByOrders (l : Launch) (hfl : l.stackTraces = false) (D : va_G) (cA : Nat → ClassId) (n : Nat → Nat) (am : ts_Am) (S : ts_St) (sz : Nat) (x : Int) (Z : ts_St) (hW : cW n S) (hx0 : iR x) (hcr : cR n S) (hJ : cJ n S) (hZ : ∀ x : Nat, 0 ≤ Z 15 0 x ∧ Z 15 0 x ≤ 3) (h9 : 0 < n 9) : Met l yL_fewestByOrders wsL_fewestByOrders ({ frames := 8, cells := 3, slots := 18, locals := 199 } : Room) (va_Pc [.ref (am 0 0), .int (iZ x), .ref (am 9 0)] (zPH TX D cA (n, am, S) sz)) (zQi TX D cA (n, am, S) sz (fun k u => (k = 0 ∧ ((0 ≤ x ∧ x < (n 8 : Int)) ∧ 0 ≤ S 8 x.toNat 7) ∧ ∃ (S9 : ts_St) (d : Nat), u = (n, am, up3 S9 9 0 0 (d : Int)) ∧ cEq n S S9 ∧ d ≤ 4 ∧ mRch d (yV n S Z) x ∧ ∀ q : Nat, q < d → ¬ mRch q (yV n S Z) x) ∨ (k = 1 ∧ ¬ (0 ≤ x ∧ x < (n 8 : Int)) ∧ u = (n, am, S)) ∨ (k = 2 ∧ (0 ≤ x ∧ x < (n 8 : Int)) ∧ S 8 x.toNat 7 < 0 ∧ u = (n, am, S)) ∨ (k = 3 ∧ ((0 ≤ x ∧ x < (n 8 : Int)) ∧ 0 ≤ S 8 x.toNat 7) ∧ (∃ S9 : ts_St, u = (n, am, S9) ∧ cEq n S S9) ∧ ∀ q : Nat, q ≤ 4 → ¬ mRch q (yV n S Z) x))) 3 18 (ts_A (n, am, S) sz) := by
  refine zMh_of (by decide) rfl (Nat.le_of_ble_eq_true rfl) ?_
  intro p e s m below meth c hx hb hr hts hown hlocks hml htb hK hG hN hsz H locs hI ls hl
  subst hsz
  have hown : s.vm.findClass RL = some m.cls := hown
  have hl : lv_has ls 4 [(0, .ref (am 0 0)), (1, .int (iZ x)), (2, .ref (am 9 0))] := hl
  have hvz : 0 < n 0 := hW.1.1
  refine lv_aload_n hx hb dL_fewestByOrders_0 rfl (lv_at hl 2 rfl) ?_
  refine z_iconst hx hb dL_fewestByOrders_1 ?_
  refine lv_aload_n hx hb dL_fewestByOrders_2 rfl (lv_at hl 0 rfl) ?_
  refine lv_iload_n hx hb dL_fewestByOrders_3 rfl (lv_at hl 1 rfl) ?_
  refine zxhE_i (zxV (As := [.int (iZ x)]) (rest := [.int (iZ 0), .ref (am 9 0)]) (κ := 0) (i := 0) ⟨hx, hb, hml, hown, hts⟩ (c_X4_fewestByOrders l hfl D cA n am S H.size x Z hW hx0 hcr hJ hZ) (cwV 1 hts gL_fewestByOrders_X4_fewestByOrders rfl rfl rfl (by decide +kernel) ⟨Nat.le_of_ble_eq_true rfl, Nat.le_of_ble_eq_true rfl⟩) hK hI hG hvz rfl rfl rfl hl.1 rfl (Nat.le_of_ble_eq_true rfl) dL_fewestByOrders_4 ⟨Nat.le_of_ble_eq_true rfl, Nat.le_of_ble_eq_true rfl⟩) hI (fun E ce q u8 H locs hpx hI hcell hcv hcl => ?_) (fun z u9 H locs hz hp hI => ?_)
  · rcases hpx with ⟨rfl, hpx⟩ | ⟨rfl, hpx⟩ | ⟨rfl, hpx⟩
    · refine vx_catch hown [] ⟨0, 9, 12, 37⟩ [⟨0, 9, 15, 15⟩, ⟨0, 9, 18, 41⟩] (htb.trans rfl) (fun _ h => absurd h List.not_mem_nil) rfl (by decide) (hts (.classLink RL 37 "java/util/NoSuchElementException") (by decide +kernel)) (va_Nw.use rfl (hG.2.2.2.1 _ xC_NSE)) hcell hcv hcl ?_
      refine lv_astore_n (lv' := [(3, .ref q), (0, .ref (am 0 0)), (1, .int (iZ x)), (2, .ref (am 9 0))]) hx hb dL_fewestByOrders_12 rfl hl (by decide) rfl (fun ls hl => ?_)
      refine z_iconst hx hb dL_fewestByOrders_13 ?_
      exact ze_i (u' := u8) (z := 1) hx hb hr rfl hI (by decide) (Or.inr (Or.inl ⟨rfl, hpx⟩)) (Nat.le_of_ble_eq_true rfl) (Nat.le_of_ble_eq_true rfl) dL_fewestByOrders_14 hlocks
    · refine vx_catch hown [⟨0, 9, 12, 37⟩] ⟨0, 9, 15, 15⟩ [⟨0, 9, 18, 41⟩] (htb.trans rfl) (List.forall_mem_cons.mpr ⟨Or.inr ⟨by decide, _, hts (.classLink RL 37 "java/util/NoSuchElementException") (by decide +kernel), hN (xN_ISE, xN_NSE) (by decide +kernel)⟩, fun _ h => absurd h List.not_mem_nil⟩) rfl (by decide) (hts (.classLink RL 15 "java/lang/IllegalStateException") (by decide +kernel)) (va_Nw.use rfl (hG.2.2.2.1 _ xC_ISE)) hcell hcv hcl ?_
      refine lv_astore_n (lv' := [(3, .ref q), (0, .ref (am 0 0)), (1, .int (iZ x)), (2, .ref (am 9 0))]) hx hb dL_fewestByOrders_15 rfl hl (by decide) rfl (fun ls hl => ?_)
      refine z_iconst hx hb dL_fewestByOrders_16 ?_
      exact ze_i (u' := u8) (z := 2) hx hb hr rfl hI (by decide) (Or.inr (Or.inr (Or.inl ⟨rfl, hpx⟩))) (Nat.le_of_ble_eq_true rfl) (Nat.le_of_ble_eq_true rfl) dL_fewestByOrders_17 hlocks
    · refine vx_catch hown [⟨0, 9, 12, 37⟩, ⟨0, 9, 15, 15⟩] ⟨0, 9, 18, 41⟩ [] (htb.trans rfl) (List.forall_mem_cons.mpr ⟨Or.inr ⟨by decide, _, hts (.classLink RL 37 "java/util/NoSuchElementException") (by decide +kernel), hN (xN_UOE, xN_NSE) (by decide +kernel)⟩, List.forall_mem_cons.mpr ⟨Or.inr ⟨by decide, _, hts (.classLink RL 15 "java/lang/IllegalStateException") (by decide +kernel), hN (xN_UOE, xN_ISE) (by decide +kernel)⟩, fun _ h => absurd h List.not_mem_nil⟩⟩) rfl (by decide) (hts (.classLink RL 41 "java/lang/UnsupportedOperationException") (by decide +kernel)) (va_Nw.use rfl (hG.2.2.2.1 _ xC_UOE)) hcell hcv hcl ?_
      refine lv_astore_n (lv' := [(3, .ref q), (0, .ref (am 0 0)), (1, .int (iZ x)), (2, .ref (am 9 0))]) hx hb dL_fewestByOrders_18 rfl hl (by decide) rfl (fun ls hl => ?_)
      refine z_iconst hx hb dL_fewestByOrders_19 ?_
      exact ze_i (u' := u8) (z := 3) hx hb hr rfl hI (by decide) (Or.inr (Or.inr (Or.inr ⟨rfl, hpx⟩))) (Nat.le_of_ble_eq_true rfl) (Nat.le_of_ble_eq_true rfl) dL_fewestByOrders_20 hlocks
  · obtain ⟨hc0, S9, d, rfl, h1, h2, rfl, h3⟩ := hp
    refine z_i2l hx hb dL_fewestByOrders_7 hz ?_
    refine zs_l (κ := 9) (i := 0) hx hb hK hI h9 rfl (by decide) (by decide) (by decide) dL_fewestByOrders_8 (fun H locs hI => ?_)
    refine lv_goto (tgt := 21) hx hb dL_fewestByOrders_9 (by decide) ?_
    refine z_iconst hx hb dL_fewestByOrders_21 ?_
    exact ze_i (u' := (n, am, up3 (S9) 9 0 0 ((d : Int)))) (z := 0) hx hb hr rfl hI (by decide) (Or.inl ⟨rfl, hc0, S9, d, rfl, h1, h2, h3⟩) (Nat.le_of_ble_eq_true rfl) (Nat.le_of_ble_eq_true rfl) dL_fewestByOrders_22 hlocks
set_option maxHeartbeats 4000000 in
set_option maxRecDepth 100000 in
theorem c_L_pass (l : Launch) (hfl : l.stackTraces = false) (D : va_G) (cA : Nat → ClassId) (n : Nat → Nat) (am : ts_Am) (S : ts_St) (sz : Nat) (a : Int) (hW : cW n S) (ha0 : iR a) (hcr : cR n S) (htm : S 0 0 10 + 100 ≤ 100000) (h9 : 0 < n 9) : Met l yL_pass wsL_pass ({ frames := 7, cells := 1, slots := 6, locals := 114 } : Room) (va_Pc [.ref (am 0 0), .int (iZ a), .ref (am 9 0)] (zPH TX D cA (n, am, S) sz)) (zQi TX D cA (n, am, S) sz (fun k u => (k = 0 ∧ (1 ≤ a ∧ a ≤ 99) ∧ u = (n, am, up3 (gY S (S 0 0 10 + a) (n 8)) 9 0 0 (yPn S (S 0 0 10 + a) (n 8)))) ∨ (k = 1 ∧ (¬ (1 ≤ a ∧ a ≤ 99)) ∧ u = (n, am, S)))) 1 6 (ts_A (n, am, S) sz) := by
  refine zMh_of (by decide) rfl (Nat.le_of_ble_eq_true rfl) ?_
  intro p e s m below meth c hx hb hr hts hown hlocks hml htb hK hG hN hsz H locs hI ls hl
  subst hsz
  have hown : s.vm.findClass RL = some m.cls := hown
  have hl : lv_has ls 4 [(0, .ref (am 0 0)), (1, .int (iZ a)), (2, .ref (am 9 0))] := hl
  have hvz : 0 < n 0 := hW.1.1
  refine lv_aload_n hx hb dL_pass_0 rfl (lv_at hl 2 rfl) ?_
  refine z_iconst hx hb dL_pass_1 ?_
  refine lv_aload_n hx hb dL_pass_2 rfl (lv_at hl 0 rfl) ?_
  refine lv_iload_n hx hb dL_pass_3 rfl (lv_at hl 1 rfl) ?_
  refine zxh_i (zxV (As := [.int (iZ a)]) (rest := [.int (iZ 0), .ref (am 9 0)]) (κ := 0) (i := 0) ⟨hx, hb, hml, hown, hts⟩ (c_X4_pass l hfl D cA n am S H.size a hW ha0 hcr htm) (cwV 1 hts gL_pass_X4_pass rfl rfl rfl (by decide +kernel) ⟨Nat.le_of_ble_eq_true rfl, Nat.le_of_ble_eq_true rfl⟩) hK hI hG hvz rfl rfl rfl hl.1 rfl (Nat.le_of_ble_eq_true rfl) dL_pass_4 ⟨Nat.le_of_ble_eq_true rfl, Nat.le_of_ble_eq_true rfl⟩) hI (fun E ce q H locs hpx hI hcell hcv hcl => ?_) (fun z u9 H locs hz hp hI => ?_)
  · obtain ⟨rfl, hpx⟩ := hpx
    refine vx_catch hown [] ⟨0, 9, 12, 13⟩ [] (htb.trans rfl) (fun _ h => absurd h List.not_mem_nil) rfl (by decide) (hts (.classLink RL 13 "java/lang/IllegalArgumentException") (by decide +kernel)) (va_Nw.use rfl (hG.2.2.2.1 _ xC_IAE)) hcell hcv hcl ?_
    refine lv_astore_n (lv' := [(3, .ref q), (0, .ref (am 0 0)), (1, .int (iZ a)), (2, .ref (am 9 0))]) hx hb dL_pass_12 rfl hl (by decide) rfl (fun ls hl => ?_)
    refine z_iconst hx hb dL_pass_13 ?_
    exact ze_i (u' := (n, am, S)) (z := 1) hx hb hr rfl hI (by decide) (Or.inr ⟨rfl, hpx, rfl⟩) (Nat.le_of_ble_eq_true rfl) (Nat.le_of_ble_eq_true rfl) dL_pass_14 hlocks
  · obtain ⟨hc0, rfl, rfl⟩ := hp
    refine z_i2l hx hb dL_pass_7 hz ?_
    refine zs_l (κ := 9) (i := 0) hx hb hK hI h9 rfl (by decide) (by decide) (by decide) dL_pass_8 (fun H locs hI => ?_)
    refine lv_goto (tgt := 15) hx hb dL_pass_9 (by decide) ?_
    refine z_iconst hx hb dL_pass_15 ?_
    exact ze_i (u' := (n, am, up3 (gY S (S 0 0 10 + a) (n 8)) 9 0 0 (yPn S (S 0 0 10 + a) (n 8)))) (z := 0) hx hb hr rfl hI (by decide) (Or.inl ⟨rfl, hc0, rfl⟩) (Nat.le_of_ble_eq_true rfl) (Nat.le_of_ble_eq_true rfl) dL_pass_16 hlocks
set_option maxHeartbeats 4000000 in
set_option maxRecDepth 100000 in
theorem c_L_waited (l : Launch) (hfl : l.stackTraces = false) (D : va_G) (cA : Nat → ClassId) (n : Nat → Nat) (am : ts_Am) (S : ts_St) (sz : Nat) (x : Int) (hW : cW n S) (hx0 : iR x) (h9 : 0 < n 9) : Met l yL_waited wsL_waited ({ frames := 9, cells := 2, slots := 12, locals := 155 } : Room) (va_Pc [.ref (am 0 0), .int (iZ x), .ref (am 9 0)] (zPH TX D cA (n, am, S) sz)) (zQi TX D cA (n, am, S) sz (fun k u => (k = 0 ∧ ((0 ≤ x ∧ x < (n 8 : Int)) ∧ yCame S x.toNat) ∧ u = (n, am, up3 (S) 9 0 0 (yWait S x.toNat))) ∨ (k = 1 ∧ (¬ (0 ≤ x ∧ x < (n 8 : Int))) ∧ u = (n, am, S)) ∨ (k = 2 ∧ ((0 ≤ x ∧ x < (n 8 : Int)) ∧ ¬ yCame S x.toNat) ∧ u = (n, am, S)))) 2 12 (ts_A (n, am, S) sz) := by
  refine zMh_of (by decide) rfl (Nat.le_of_ble_eq_true rfl) ?_
  intro p e s m below meth c hx hb hr hts hown hlocks hml htb hK hG hN hsz H locs hI ls hl
  subst hsz
  have hown : s.vm.findClass RL = some m.cls := hown
  have hl : lv_has ls 4 [(0, .ref (am 0 0)), (1, .int (iZ x)), (2, .ref (am 9 0))] := hl
  have hvz : 0 < n 0 := hW.1.1
  refine lv_aload_n hx hb dL_waited_0 rfl (lv_at hl 2 rfl) ?_
  refine z_iconst hx hb dL_waited_1 ?_
  refine lv_aload_n hx hb dL_waited_2 rfl (lv_at hl 0 rfl) ?_
  refine lv_iload_n hx hb dL_waited_3 rfl (lv_at hl 1 rfl) ?_
  refine zxh_i (zxV (As := [.int (iZ x)]) (rest := [.int (iZ 0), .ref (am 9 0)]) (κ := 0) (i := 0) ⟨hx, hb, hml, hown, hts⟩ (c_X4_waited l hfl D cA n am S H.size x hW hx0) (cwV 1 hts gL_waited_X4_waited rfl rfl rfl (by decide +kernel) ⟨Nat.le_of_ble_eq_true rfl, Nat.le_of_ble_eq_true rfl⟩) hK hI hG hvz rfl rfl rfl hl.1 rfl (Nat.le_of_ble_eq_true rfl) dL_waited_4 ⟨Nat.le_of_ble_eq_true rfl, Nat.le_of_ble_eq_true rfl⟩) hI (fun E ce q H locs hpx hI hcell hcv hcl => ?_) (fun z u9 H locs hz hp hI => ?_)
  · rcases hpx with ⟨rfl, hpx⟩ | ⟨rfl, hpx⟩
    · refine vx_catch hown [] ⟨0, 9, 12, 37⟩ [⟨0, 9, 15, 15⟩] (htb.trans rfl) (fun _ h => absurd h List.not_mem_nil) rfl (by decide) (hts (.classLink RL 37 "java/util/NoSuchElementException") (by decide +kernel)) (va_Nw.use rfl (hG.2.2.2.1 _ xC_NSE)) hcell hcv hcl ?_
      refine lv_astore_n (lv' := [(3, .ref q), (0, .ref (am 0 0)), (1, .int (iZ x)), (2, .ref (am 9 0))]) hx hb dL_waited_12 rfl hl (by decide) rfl (fun ls hl => ?_)
      refine z_iconst hx hb dL_waited_13 ?_
      exact ze_i (u' := (n, am, S)) (z := 1) hx hb hr rfl hI (by decide) (Or.inr (Or.inl ⟨rfl, hpx, rfl⟩)) (Nat.le_of_ble_eq_true rfl) (Nat.le_of_ble_eq_true rfl) dL_waited_14 hlocks
    · refine vx_catch hown [⟨0, 9, 12, 37⟩] ⟨0, 9, 15, 15⟩ [] (htb.trans rfl) (List.forall_mem_cons.mpr ⟨Or.inr ⟨by decide, _, hts (.classLink RL 37 "java/util/NoSuchElementException") (by decide +kernel), hN (xN_ISE, xN_NSE) (by decide +kernel)⟩, fun _ h => absurd h List.not_mem_nil⟩) rfl (by decide) (hts (.classLink RL 15 "java/lang/IllegalStateException") (by decide +kernel)) (va_Nw.use rfl (hG.2.2.2.1 _ xC_ISE)) hcell hcv hcl ?_
      refine lv_astore_n (lv' := [(3, .ref q), (0, .ref (am 0 0)), (1, .int (iZ x)), (2, .ref (am 9 0))]) hx hb dL_waited_15 rfl hl (by decide) rfl (fun ls hl => ?_)
      refine z_iconst hx hb dL_waited_16 ?_
      exact ze_i (u' := (n, am, S)) (z := 2) hx hb hr rfl hI (by decide) (Or.inr (Or.inr ⟨rfl, hpx, rfl⟩)) (Nat.le_of_ble_eq_true rfl) (Nat.le_of_ble_eq_true rfl) dL_waited_17 hlocks
  · obtain ⟨hc0, rfl, rfl⟩ := hp
    refine z_i2l hx hb dL_waited_7 hz ?_
    refine zs_l (κ := 9) (i := 0) hx hb hK hI h9 rfl (by decide) (by decide) (by decide) dL_waited_8 (fun H locs hI => ?_)
    refine lv_goto (tgt := 18) hx hb dL_waited_9 (by decide) ?_
    refine z_iconst hx hb dL_waited_18 ?_
    exact ze_i (u' := (n, am, up3 (S) 9 0 0 (yWait S x.toNat))) (z := 0) hx hb hr rfl hI (by decide) (Or.inl ⟨rfl, hc0, rfl⟩) (Nat.le_of_ble_eq_true rfl) (Nat.le_of_ble_eq_true rfl) dL_waited_19 hlocks
set_option maxHeartbeats 4000000 in
set_option maxRecDepth 100000 in
theorem c_L_charge (l : Launch) (hfl : l.stackTraces = false) (D : va_G) (cA : Nat → ClassId) (n : Nat → Nat) (am : ts_Am) (S : ts_St) (sz : Nat) (x : Int) (hW : cW n S) (hx0 : iR x) (hcr : cR n S) (h9 : 0 < n 9) : Met l yL_charge wsL_charge ({ frames := 9, cells := 2, slots := 12, locals := 155 } : Room) (va_Pc [.ref (am 0 0), .int (iZ x), .ref (am 9 0)] (zPH TX D cA (n, am, S) sz)) (zQi TX D cA (n, am, S) sz (fun k u => (k = 0 ∧ ((0 ≤ x ∧ x < (n 8 : Int)) ∧ yCame S x.toNat) ∧ u = (n, am, up3 (S) 9 0 0 (yCharge S x.toNat))) ∨ (k = 1 ∧ (¬ (0 ≤ x ∧ x < (n 8 : Int))) ∧ u = (n, am, S)) ∨ (k = 2 ∧ ((0 ≤ x ∧ x < (n 8 : Int)) ∧ ¬ yCame S x.toNat) ∧ u = (n, am, S)))) 2 12 (ts_A (n, am, S) sz) := by
  refine zMh_of (by decide) rfl (Nat.le_of_ble_eq_true rfl) ?_
  intro p e s m below meth c hx hb hr hts hown hlocks hml htb hK hG hN hsz H locs hI ls hl
  subst hsz
  have hown : s.vm.findClass RL = some m.cls := hown
  have hl : lv_has ls 4 [(0, .ref (am 0 0)), (1, .int (iZ x)), (2, .ref (am 9 0))] := hl
  have hvz : 0 < n 0 := hW.1.1
  refine lv_aload_n hx hb dL_charge_0 rfl (lv_at hl 2 rfl) ?_
  refine z_iconst hx hb dL_charge_1 ?_
  refine lv_aload_n hx hb dL_charge_2 rfl (lv_at hl 0 rfl) ?_
  refine lv_iload_n hx hb dL_charge_3 rfl (lv_at hl 1 rfl) ?_
  refine zxh_i (zxV (As := [.int (iZ x)]) (rest := [.int (iZ 0), .ref (am 9 0)]) (κ := 0) (i := 0) ⟨hx, hb, hml, hown, hts⟩ (c_X4_charge l hfl D cA n am S H.size x hW hx0 hcr) (cwV 1 hts gL_charge_X4_charge rfl rfl rfl (by decide +kernel) ⟨Nat.le_of_ble_eq_true rfl, Nat.le_of_ble_eq_true rfl⟩) hK hI hG hvz rfl rfl rfl hl.1 rfl (Nat.le_of_ble_eq_true rfl) dL_charge_4 ⟨Nat.le_of_ble_eq_true rfl, Nat.le_of_ble_eq_true rfl⟩) hI (fun E ce q H locs hpx hI hcell hcv hcl => ?_) (fun z u9 H locs hz hp hI => ?_)
  · rcases hpx with ⟨rfl, hpx⟩ | ⟨rfl, hpx⟩
    · refine vx_catch hown [] ⟨0, 9, 12, 37⟩ [⟨0, 9, 15, 15⟩] (htb.trans rfl) (fun _ h => absurd h List.not_mem_nil) rfl (by decide) (hts (.classLink RL 37 "java/util/NoSuchElementException") (by decide +kernel)) (va_Nw.use rfl (hG.2.2.2.1 _ xC_NSE)) hcell hcv hcl ?_
      refine lv_astore_n (lv' := [(3, .ref q), (0, .ref (am 0 0)), (1, .int (iZ x)), (2, .ref (am 9 0))]) hx hb dL_charge_12 rfl hl (by decide) rfl (fun ls hl => ?_)
      refine z_iconst hx hb dL_charge_13 ?_
      exact ze_i (u' := (n, am, S)) (z := 1) hx hb hr rfl hI (by decide) (Or.inr (Or.inl ⟨rfl, hpx, rfl⟩)) (Nat.le_of_ble_eq_true rfl) (Nat.le_of_ble_eq_true rfl) dL_charge_14 hlocks
    · refine vx_catch hown [⟨0, 9, 12, 37⟩] ⟨0, 9, 15, 15⟩ [] (htb.trans rfl) (List.forall_mem_cons.mpr ⟨Or.inr ⟨by decide, _, hts (.classLink RL 37 "java/util/NoSuchElementException") (by decide +kernel), hN (xN_ISE, xN_NSE) (by decide +kernel)⟩, fun _ h => absurd h List.not_mem_nil⟩) rfl (by decide) (hts (.classLink RL 15 "java/lang/IllegalStateException") (by decide +kernel)) (va_Nw.use rfl (hG.2.2.2.1 _ xC_ISE)) hcell hcv hcl ?_
      refine lv_astore_n (lv' := [(3, .ref q), (0, .ref (am 0 0)), (1, .int (iZ x)), (2, .ref (am 9 0))]) hx hb dL_charge_15 rfl hl (by decide) rfl (fun ls hl => ?_)
      refine z_iconst hx hb dL_charge_16 ?_
      exact ze_i (u' := (n, am, S)) (z := 2) hx hb hr rfl hI (by decide) (Or.inr (Or.inr ⟨rfl, hpx, rfl⟩)) (Nat.le_of_ble_eq_true rfl) (Nat.le_of_ble_eq_true rfl) dL_charge_17 hlocks
  · obtain ⟨hc0, rfl, rfl⟩ := hp
    refine z_i2l hx hb dL_charge_7 hz ?_
    refine zs_l (κ := 9) (i := 0) hx hb hK hI h9 rfl (by decide) (by decide) (by decide) dL_charge_8 (fun H locs hI => ?_)
    refine lv_goto (tgt := 18) hx hb dL_charge_9 (by decide) ?_
    refine z_iconst hx hb dL_charge_18 ?_
    exact ze_i (u' := (n, am, up3 (S) 9 0 0 (yCharge S x.toNat))) (z := 0) hx hb hr rfl hI (by decide) (Or.inl ⟨rfl, hc0, rfl⟩) (Nat.le_of_ble_eq_true rfl) (Nat.le_of_ble_eq_true rfl) dL_charge_19 hlocks
set_option maxHeartbeats 4000000 in
set_option maxRecDepth 100000 in
theorem c_L_chargeByHours (l : Launch) (hfl : l.stackTraces = false) (D : va_G) (cA : Nat → ClassId) (n : Nat → Nat) (am : ts_Am) (S : ts_St) (sz : Nat) (x : Int) (hW : cW n S) (hx0 : iR x) (hcr : cR n S) (h9 : 0 < n 9) : Met l yL_chargeByHours wsL_chargeByHours ({ frames := 9, cells := 2, slots := 12, locals := 159 } : Room) (va_Pc [.ref (am 0 0), .int (iZ x), .ref (am 9 0)] (zPH TX D cA (n, am, S) sz)) (zQi TX D cA (n, am, S) sz (fun k u => (k = 0 ∧ ((0 ≤ x ∧ x < (n 8 : Int)) ∧ yCame S x.toNat) ∧ u = (n, am, up3 (S) 9 0 0 (yHours S x.toNat))) ∨ (k = 1 ∧ (¬ (0 ≤ x ∧ x < (n 8 : Int))) ∧ u = (n, am, S)) ∨ (k = 2 ∧ ((0 ≤ x ∧ x < (n 8 : Int)) ∧ ¬ yCame S x.toNat) ∧ u = (n, am, S)))) 2 12 (ts_A (n, am, S) sz) := by
  refine zMh_of (by decide) rfl (Nat.le_of_ble_eq_true rfl) ?_
  intro p e s m below meth c hx hb hr hts hown hlocks hml htb hK hG hN hsz H locs hI ls hl
  subst hsz
  have hown : s.vm.findClass RL = some m.cls := hown
  have hl : lv_has ls 4 [(0, .ref (am 0 0)), (1, .int (iZ x)), (2, .ref (am 9 0))] := hl
  have hvz : 0 < n 0 := hW.1.1
  refine lv_aload_n hx hb dL_chargeByHours_0 rfl (lv_at hl 2 rfl) ?_
  refine z_iconst hx hb dL_chargeByHours_1 ?_
  refine lv_aload_n hx hb dL_chargeByHours_2 rfl (lv_at hl 0 rfl) ?_
  refine lv_iload_n hx hb dL_chargeByHours_3 rfl (lv_at hl 1 rfl) ?_
  refine zxh_i (zxV (As := [.int (iZ x)]) (rest := [.int (iZ 0), .ref (am 9 0)]) (κ := 0) (i := 0) ⟨hx, hb, hml, hown, hts⟩ (c_X4_chargeByHours l hfl D cA n am S H.size x hW hx0 hcr) (cwV 1 hts gL_chargeByHours_X4_chargeByHours rfl rfl rfl (by decide +kernel) ⟨Nat.le_of_ble_eq_true rfl, Nat.le_of_ble_eq_true rfl⟩) hK hI hG hvz rfl rfl rfl hl.1 rfl (Nat.le_of_ble_eq_true rfl) dL_chargeByHours_4 ⟨Nat.le_of_ble_eq_true rfl, Nat.le_of_ble_eq_true rfl⟩) hI (fun E ce q H locs hpx hI hcell hcv hcl => ?_) (fun z u9 H locs hz hp hI => ?_)
  · rcases hpx with ⟨rfl, hpx⟩ | ⟨rfl, hpx⟩
    · refine vx_catch hown [] ⟨0, 9, 12, 37⟩ [⟨0, 9, 15, 15⟩] (htb.trans rfl) (fun _ h => absurd h List.not_mem_nil) rfl (by decide) (hts (.classLink RL 37 "java/util/NoSuchElementException") (by decide +kernel)) (va_Nw.use rfl (hG.2.2.2.1 _ xC_NSE)) hcell hcv hcl ?_
      refine lv_astore_n (lv' := [(3, .ref q), (0, .ref (am 0 0)), (1, .int (iZ x)), (2, .ref (am 9 0))]) hx hb dL_chargeByHours_12 rfl hl (by decide) rfl (fun ls hl => ?_)
      refine z_iconst hx hb dL_chargeByHours_13 ?_
      exact ze_i (u' := (n, am, S)) (z := 1) hx hb hr rfl hI (by decide) (Or.inr (Or.inl ⟨rfl, hpx, rfl⟩)) (Nat.le_of_ble_eq_true rfl) (Nat.le_of_ble_eq_true rfl) dL_chargeByHours_14 hlocks
    · refine vx_catch hown [⟨0, 9, 12, 37⟩] ⟨0, 9, 15, 15⟩ [] (htb.trans rfl) (List.forall_mem_cons.mpr ⟨Or.inr ⟨by decide, _, hts (.classLink RL 37 "java/util/NoSuchElementException") (by decide +kernel), hN (xN_ISE, xN_NSE) (by decide +kernel)⟩, fun _ h => absurd h List.not_mem_nil⟩) rfl (by decide) (hts (.classLink RL 15 "java/lang/IllegalStateException") (by decide +kernel)) (va_Nw.use rfl (hG.2.2.2.1 _ xC_ISE)) hcell hcv hcl ?_
      refine lv_astore_n (lv' := [(3, .ref q), (0, .ref (am 0 0)), (1, .int (iZ x)), (2, .ref (am 9 0))]) hx hb dL_chargeByHours_15 rfl hl (by decide) rfl (fun ls hl => ?_)
      refine z_iconst hx hb dL_chargeByHours_16 ?_
      exact ze_i (u' := (n, am, S)) (z := 2) hx hb hr rfl hI (by decide) (Or.inr (Or.inr ⟨rfl, hpx, rfl⟩)) (Nat.le_of_ble_eq_true rfl) (Nat.le_of_ble_eq_true rfl) dL_chargeByHours_17 hlocks
  · obtain ⟨hc0, rfl, rfl⟩ := hp
    refine z_i2l hx hb dL_chargeByHours_7 hz ?_
    refine zs_l (κ := 9) (i := 0) hx hb hK hI h9 rfl (by decide) (by decide) (by decide) dL_chargeByHours_8 (fun H locs hI => ?_)
    refine lv_goto (tgt := 18) hx hb dL_chargeByHours_9 (by decide) ?_
    refine z_iconst hx hb dL_chargeByHours_18 ?_
    exact ze_i (u' := (n, am, up3 (S) 9 0 0 (yHours S x.toNat))) (z := 0) hx hb hr rfl hI (by decide) (Or.inl ⟨rfl, hc0, rfl⟩) (Nat.le_of_ble_eq_true rfl) (Nat.le_of_ble_eq_true rfl) dL_chargeByHours_19 hlocks
