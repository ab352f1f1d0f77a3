/-! The law's cases, on. -/
set_option maxHeartbeats 4000000 in
set_option maxRecDepth 100000 in
theorem law_laneOf {p : Program} {e : Env} {s : State} {m : MethodId} {below : List Frame} {meth : Method} {c : Code} {args : Array Value} {cells slots : Nat} {Q : State → Prop} {H : Heap} {ls : Array Slot} {b L : Nat} {xs : Nat → Int32} {D : va_G} {cX cM : Nat → ClassId} {cD : ClassId} {oD : Nat} {i : Int} {q : Nat} (l : Launch) (hfl : l.stackTraces = false) (hE : lEnv p s m c args b L xs D cX cM cD) (hq : q < 600) (hi : 0 ≤ i ∧ i + 5 ≤ (L : Int) ∧ L ≤ 2560) (h : lInv D cX cM cD oD s b i q H ls) (hc : cells + 8 ≤ 762397) (hs : slots + 40 ≤ 6708562) (kk : ∀ (H : Heap) (ls : Array Slot), lInv D cX cM cD oD s b i (q + 1) H ls → W p l e room_1 s m args below meth c H [] (cells + 8) (slots + 40) Q (F0 m 1699 ls [])) : W p l e room_1 s m args below meth c H [] cells slots Q (F0 m 956 ls []) := by
  obtain ⟨hx, hb, hml, hown, hts, hKX, hKM, hKD, hG, hN, hX, hbl⟩ := hE
  obtain ⟨n, am, S, nM, amM, M, v, hJ, hs0, hW, h9, hl⟩ := h
  have hr : room_1.cells = 762397 ∧ room_1.slots = 6708562 := ⟨rfl, rfl⟩
  have hv0 : 0 < nM 0 := hW.1 0 (by decide)
  have hvX : 0 < n 0 := hs0.1.1.1.1.1
  refine lv_aload_n hx hb dL_law_956 rfl (lv_at hl 1 rfl) ?_
  refine lv_aload_n hx hb dL_law_957 rfl (lv_at hl 0 rfl) ?_
  refine lv_iload hx hb dL_law_958 (lv_at hl 5 rfl) ?_
  refine z_iconst hx hb dL_law_960 ?_
  refine z_iadd hx hb dL_law_961 ?_
  refine lj_rd hx hb hX hbl hJ (by omega) (by omega) (by omega) dL_law_962 ?_
  refine lv_aload_n hx hb dL_law_963 rfl (lv_at hl 3 rfl) ?_
  refine lj_X_i (zHS (As := [.ref (am 0 0), .int (iZ (xi xs (i + 1))), .ref (am 9 0)]) (rest := []) ⟨hx, hb, hml, hown, hts⟩ (c_L_laneOf l hfl D cX n am S H.size (xi xs (i + 1)) hs0.1.1.1 (xi_R _ _) h9) (vx_cwSW 3 hts gL_law_L_laneOf rfl rfl rfl (by decide +kernel) ⟨Nat.le_of_ble_eq_true rfl, Nat.le_of_ble_eq_true rfl⟩) hKX hG hN hJ rfl hl.1 rfl (Nat.le_of_ble_eq_true rfl) dL_law_964 ⟨by rw [hr.1]; omega, by rw [hr.2]; omega⟩) hJ (fun k u H hk hp hJ => ?_)
  obtain ⟨n1, am1, S1, rfl, hk1, hn1, hO⟩ := op_laneOf (nM := nM) (amM := amM) hs0 hW hq (xi xs (i + 1)) hp
  clear hp
  have h91 : 0 < n1 9 := Nat.lt_of_lt_of_le h9 (hn1 9)
  replace hl : lv_has ls 9 [(0, .ref b), (1, .ref (am1 0 0)), (2, .ref (amM 0 0)), (3, .ref (am1 9 0)), (4, .ref oD), (5, .int (iZ i))] := by rw [hk1 0 0 hvX, hk1 9 0 h9]; exact hl
  refine lv_istore (lv' := [(6, .int (iZ k)), (0, .ref b), (1, .ref (am1 0 0)), (2, .ref (amM 0 0)), (3, .ref (am1 9 0)), (4, .ref oD), (5, .int (iZ i))]) hx hb dL_law_967 hl (by decide) rfl (fun ls hl => ?_)
  refine lv_aload_n hx hb dL_law_969 rfl (lv_at hl 3 rfl) ?_
  refine lv_aload_n hx hb dL_law_970 rfl (lv_at hl 1 rfl) ?_
  refine lv_iload hx hb dL_law_971 (lv_at hl 6 rfl) ?_
  refine z_iconst hx hb dL_law_973 ?_
  refine z_iadd hx hb dL_law_974 ?_
  refine lj_rd hx hb hX hbl hJ (by omega) (by omega) (by omega) dL_law_975 ?_
  refine lj_M_i (zrV (As := [.int (iZ (xi xs (i + 1)))]) (rest := []) (κ := 0) (i := 0) ⟨hx, hb, hml, hown, hts⟩ (c_X5_laneOf l D cM nM amM M H.size (xi xs (i + 1)) hW (xi_R _ _) hs0.1.mR hs0.1.hys) (cwV 1 hts gL_law_X5_laneOf rfl rfl rfl (by decide +kernel) ⟨Nat.le_of_ble_eq_true rfl, Nat.le_of_ble_eq_true rfl⟩) hKM hJ.IM hv0 rfl rfl rfl hl.1 rfl (Nat.le_of_ble_eq_true rfl) dL_law_976 ⟨by rw [hr.1]; omega, by rw [hr.2]; omega⟩) hJ (fun z w H hz hp hJ => ?_)
  obtain ⟨M1, rfl, hW1, h24, hz0, hs1⟩ := hO _ _ hp
  clear hp hO
  refine lv_istore (lv' := [(7, .int (iZ z)), (6, .int (iZ k)), (0, .ref b), (1, .ref (am1 0 0)), (2, .ref (amM 0 0)), (3, .ref (am1 9 0)), (4, .ref oD), (5, .int (iZ i))]) hx hb dL_law_979 hl (by decide) rfl (fun ls hl => ?_)
  refine lv_aload_n hx hb dL_law_981 rfl (lv_at hl 4 rfl) ?_
  refine lj_M_i (zrV (As := []) (rest := []) (κ := 0) (i := 0) ⟨hx, hb, hml, hown, hts⟩ (c_X5_thrown l D cM nM amM M1 H.size hW1) (cwV 0 hts gL_law_X5_thrown rfl rfl rfl (by decide +kernel) ⟨Nat.le_of_ble_eq_true rfl, Nat.le_of_ble_eq_true rfl⟩) hKM hJ.IM hv0 rfl rfl rfl hl.1 rfl (Nat.le_of_ble_eq_true rfl) dL_law_982 ⟨by rw [hr.1]; omega, by rw [hr.2]; omega⟩) hJ (fun z2 w H hz2 hp hJ => ?_)
  obtain ⟨rfl, rfl⟩ := hp
  refine lv_iload hx hb dL_law_985 (lv_at hl 1 rfl) ?_
  refine z_icmp_eq (tgt := 992) hx hb dL_law_987 (by decide) hz2 hk (fun _ => ?_) (fun hz9 => absurd h24 hz9)
  refine lv_iload hx hb dL_law_992 (lv_at hl 1 rfl) ?_
  refine z_if_ne (tgt := 1009) hx hb dL_law_994 (by decide) hk (fun hk0 => ?_) (fun hk0 => ?_)
  · refine lv_goto (tgt := 1699) hx hb dL_law_1009 (by decide) ?_
    exact W.widen (by omega) (by omega) (kk _ _ ⟨_, _, _, _, _, _, _, hJ, hs1, hW1, h91, lv_sub hl [2, 3, 4, 5, 6, 7] rfl⟩)
  · refine lv_aload_n hx hb dL_law_997 rfl (lv_at hl 5 rfl) ?_
    refine z_iconst hx hb dL_law_998 ?_
    refine za_l (κ := 9) (i := 0) hx hb hKX hJ.IX h91 rfl (by decide) (by decide) (by decide) dL_law_999 (hz0 hk0) ?_
    refine lv_iload hx hb dL_law_1000 (lv_at hl 0 rfl) ?_
    refine z_i2l hx hb dL_law_1002 hz ?_
    refine lj_lcmp hx hb dL_law_1003 ?_
    refine z_if_eq (tgt := 1009) hx hb dL_law_1004 (by decide) (by decide) (fun _ => ?_) (fun hz9 => absurd rfl hz9)
    refine lv_goto (tgt := 1699) hx hb dL_law_1009 (by decide) ?_
    exact W.widen (by omega) (by omega) (kk _ _ ⟨_, _, _, _, _, _, _, hJ, hs1, hW1, h91, lv_sub hl [2, 3, 4, 5, 6, 7] rfl⟩)
set_option maxHeartbeats 4000000 in
set_option maxRecDepth 100000 in
theorem law_blockers {p : Program} {e : Env} {s : State} {m : MethodId} {below : List Frame} {meth : Method} {c : Code} {args : Array Value} {cells slots : Nat} {Q : State → Prop} {H : Heap} {ls : Array Slot} {b L : Nat} {xs : Nat → Int32} {D : va_G} {cX cM : Nat → ClassId} {cD : ClassId} {oD : Nat} {i : Int} {q : Nat} (l : Launch) (hfl : l.stackTraces = false) (hE : lEnv p s m c args b L xs D cX cM cD) (hq : q < 600) (hi : 0 ≤ i ∧ i + 5 ≤ (L : Int) ∧ L ≤ 2560) (h : lInv D cX cM cD oD s b i q H ls) (hc : cells + 8 ≤ 762397) (hs : slots + 40 ≤ 6708562) (kk : ∀ (H : Heap) (ls : Array Slot), lInv D cX cM cD oD s b i (q + 1) H ls → W p l e room_1 s m args below meth c H [] (cells + 8) (slots + 40) Q (F0 m 1699 ls [])) : W p l e room_1 s m args below meth c H [] cells slots Q (F0 m 1012 ls []) := by
  obtain ⟨hx, hb, hml, hown, hts, hKX, hKM, hKD, hG, hN, hX, hbl⟩ := hE
  obtain ⟨n, am, S, nM, amM, M, v, hJ, hs0, hW, h9, hl⟩ := h
  have hr : room_1.cells = 762397 ∧ room_1.slots = 6708562 := ⟨rfl, rfl⟩
  have hv0 : 0 < nM 0 := hW.1 0 (by decide)
  have hvX : 0 < n 0 := hs0.1.1.1.1.1
  refine lv_aload_n hx hb dL_law_1012 rfl (lv_at hl 1 rfl) ?_
  refine lv_aload_n hx hb dL_law_1013 rfl (lv_at hl 0 rfl) ?_
  refine lv_iload hx hb dL_law_1014 (lv_at hl 5 rfl) ?_
  refine z_iconst hx hb dL_law_1016 ?_
  refine z_iadd hx hb dL_law_1017 ?_
  refine lj_rd hx hb hX hbl hJ (by omega) (by omega) (by omega) dL_law_1018 ?_
  refine lv_aload_n hx hb dL_law_1019 rfl (lv_at hl 3 rfl) ?_
  refine lj_X_i (zHS (As := [.ref (am 0 0), .int (iZ (xi xs (i + 1))), .ref (am 9 0)]) (rest := []) ⟨hx, hb, hml, hown, hts⟩ (c_L_blockers l hfl D cX n am S H.size (xi xs (i + 1)) hs0.1.1.1 (xi_R _ _) h9) (vx_cwSW 3 hts gL_law_L_blockers rfl rfl rfl (by decide +kernel) ⟨Nat.le_of_ble_eq_true rfl, Nat.le_of_ble_eq_true rfl⟩) hKX hG hN hJ rfl hl.1 rfl (Nat.le_of_ble_eq_true rfl) dL_law_1020 ⟨by rw [hr.1]; omega, by rw [hr.2]; omega⟩) hJ (fun k u H hk hp hJ => ?_)
  obtain ⟨n1, am1, S1, rfl, hk1, hn1, hO⟩ := op_blockers (nM := nM) (amM := amM) hs0 hW hq (xi xs (i + 1)) hp
  clear hp
  have h91 : 0 < n1 9 := Nat.lt_of_lt_of_le h9 (hn1 9)
  replace hl : lv_has ls 9 [(0, .ref b), (1, .ref (am1 0 0)), (2, .ref (amM 0 0)), (3, .ref (am1 9 0)), (4, .ref oD), (5, .int (iZ i))] := by rw [hk1 0 0 hvX, hk1 9 0 h9]; exact hl
  refine lv_istore (lv' := [(6, .int (iZ k)), (0, .ref b), (1, .ref (am1 0 0)), (2, .ref (amM 0 0)), (3, .ref (am1 9 0)), (4, .ref oD), (5, .int (iZ i))]) hx hb dL_law_1023 hl (by decide) rfl (fun ls hl => ?_)
  refine lv_aload_n hx hb dL_law_1025 rfl (lv_at hl 3 rfl) ?_
  refine lv_aload_n hx hb dL_law_1026 rfl (lv_at hl 1 rfl) ?_
  refine lv_iload hx hb dL_law_1027 (lv_at hl 6 rfl) ?_
  refine z_iconst hx hb dL_law_1029 ?_
  refine z_iadd hx hb dL_law_1030 ?_
  refine lj_rd hx hb hX hbl hJ (by omega) (by omega) (by omega) dL_law_1031 ?_
  refine lj_M_i (zrV (As := [.int (iZ (xi xs (i + 1)))]) (rest := []) (κ := 0) (i := 0) ⟨hx, hb, hml, hown, hts⟩ (c_X5_blockers l D cM nM amM M H.size (xi xs (i + 1)) hW (xi_R _ _) hs0.1.mR hs0.1.hys) (cwV 1 hts gL_law_X5_blockers rfl rfl rfl (by decide +kernel) ⟨Nat.le_of_ble_eq_true rfl, Nat.le_of_ble_eq_true rfl⟩) hKM hJ.IM hv0 rfl rfl rfl hl.1 rfl (Nat.le_of_ble_eq_true rfl) dL_law_1032 ⟨by rw [hr.1]; omega, by rw [hr.2]; omega⟩) hJ (fun z w H hz hp hJ => ?_)
  obtain ⟨M1, rfl, hW1, h24, hz0, hs1⟩ := hO _ _ hp
  clear hp hO
  refine lv_istore (lv' := [(7, .int (iZ z)), (6, .int (iZ k)), (0, .ref b), (1, .ref (am1 0 0)), (2, .ref (amM 0 0)), (3, .ref (am1 9 0)), (4, .ref oD), (5, .int (iZ i))]) hx hb dL_law_1035 hl (by decide) rfl (fun ls hl => ?_)
  refine lv_aload_n hx hb dL_law_1037 rfl (lv_at hl 4 rfl) ?_
  refine lj_M_i (zrV (As := []) (rest := []) (κ := 0) (i := 0) ⟨hx, hb, hml, hown, hts⟩ (c_X5_thrown l D cM nM amM M1 H.size hW1) (cwV 0 hts gL_law_X5_thrown rfl rfl rfl (by decide +kernel) ⟨Nat.le_of_ble_eq_true rfl, Nat.le_of_ble_eq_true rfl⟩) hKM hJ.IM hv0 rfl rfl rfl hl.1 rfl (Nat.le_of_ble_eq_true rfl) dL_law_1038 ⟨by rw [hr.1]; omega, by rw [hr.2]; omega⟩) hJ (fun z2 w H hz2 hp hJ => ?_)
  obtain ⟨rfl, rfl⟩ := hp
  refine lv_iload hx hb dL_law_1041 (lv_at hl 1 rfl) ?_
  refine z_icmp_eq (tgt := 1048) hx hb dL_law_1043 (by decide) hz2 hk (fun _ => ?_) (fun hz9 => absurd h24 hz9)
  refine lv_iload hx hb dL_law_1048 (lv_at hl 1 rfl) ?_
  refine z_if_ne (tgt := 1065) hx hb dL_law_1050 (by decide) hk (fun hk0 => ?_) (fun hk0 => ?_)
  · refine lv_goto (tgt := 1699) hx hb dL_law_1065 (by decide) ?_
    exact W.widen (by omega) (by omega) (kk _ _ ⟨_, _, _, _, _, _, _, hJ, hs1, hW1, h91, lv_sub hl [2, 3, 4, 5, 6, 7] rfl⟩)
  · refine lv_aload_n hx hb dL_law_1053 rfl (lv_at hl 5 rfl) ?_
    refine z_iconst hx hb dL_law_1054 ?_
    refine za_l (κ := 9) (i := 0) hx hb hKX hJ.IX h91 rfl (by decide) (by decide) (by decide) dL_law_1055 (hz0 hk0) ?_
    refine lv_iload hx hb dL_law_1056 (lv_at hl 0 rfl) ?_
    refine z_i2l hx hb dL_law_1058 hz ?_
    refine lj_lcmp hx hb dL_law_1059 ?_
    refine z_if_eq (tgt := 1065) hx hb dL_law_1060 (by decide) (by decide) (fun _ => ?_) (fun hz9 => absurd rfl hz9)
    refine lv_goto (tgt := 1699) hx hb dL_law_1065 (by decide) ?_
    exact W.widen (by omega) (by omega) (kk _ _ ⟨_, _, _, _, _, _, _, hJ, hs1, hW1, h91, lv_sub hl [2, 3, 4, 5, 6, 7] rfl⟩)
set_option maxHeartbeats 4000000 in
set_option maxRecDepth 100000 in
theorem law_trailerAt {p : Program} {e : Env} {s : State} {m : MethodId} {below : List Frame} {meth : Method} {c : Code} {args : Array Value} {cells slots : Nat} {Q : State → Prop} {H : Heap} {ls : Array Slot} {b L : Nat} {xs : Nat → Int32} {D : va_G} {cX cM : Nat → ClassId} {cD : ClassId} {oD : Nat} {i : Int} {q : Nat} (l : Launch) (hfl : l.stackTraces = false) (hE : lEnv p s m c args b L xs D cX cM cD) (hq : q < 600) (hi : 0 ≤ i ∧ i + 5 ≤ (L : Int) ∧ L ≤ 2560) (h : lInv D cX cM cD oD s b i q H ls) (hc : cells + 8 ≤ 762397) (hs : slots + 40 ≤ 6708562) (kk : ∀ (H : Heap) (ls : Array Slot), lInv D cX cM cD oD s b i (q + 1) H ls → W p l e room_1 s m args below meth c H [] (cells + 8) (slots + 40) Q (F0 m 1699 ls [])) : W p l e room_1 s m args below meth c H [] cells slots Q (F0 m 1068 ls []) := by
  obtain ⟨hx, hb, hml, hown, hts, hKX, hKM, hKD, hG, hN, hX, hbl⟩ := hE
  obtain ⟨n, am, S, nM, amM, M, v, hJ, hs0, hW, h9, hl⟩ := h
  have hr : room_1.cells = 762397 ∧ room_1.slots = 6708562 := ⟨rfl, rfl⟩
  have hv0 : 0 < nM 0 := hW.1 0 (by decide)
  have hvX : 0 < n 0 := hs0.1.1.1.1.1
  refine lv_aload_n hx hb dL_law_1068 rfl (lv_at hl 1 rfl) ?_
  refine lv_aload_n hx hb dL_law_1069 rfl (lv_at hl 0 rfl) ?_
  refine lv_iload hx hb dL_law_1070 (lv_at hl 5 rfl) ?_
  refine z_iconst hx hb dL_law_1072 ?_
  refine z_iadd hx hb dL_law_1073 ?_
  refine lj_rd hx hb hX hbl hJ (by omega) (by omega) (by omega) dL_law_1074 ?_
  refine lv_aload_n hx hb dL_law_1075 rfl (lv_at hl 0 rfl) ?_
  refine lv_iload hx hb dL_law_1076 (lv_at hl 5 rfl) ?_
  refine z_iconst hx hb dL_law_1078 ?_
  refine z_iadd hx hb dL_law_1079 ?_
  refine lj_rd hx hb hX hbl hJ (by omega) (by omega) (by omega) dL_law_1080 ?_
  refine lv_aload_n hx hb dL_law_1081 rfl (lv_at hl 3 rfl) ?_
  refine lj_X_i (zHS (As := [.ref (am 0 0), .int (iZ (xi xs (i + 1))), .int (iZ (xi xs (i + 2))), .ref (am 9 0)]) (rest := []) ⟨hx, hb, hml, hown, hts⟩ (c_L_trailerAt l hfl D cX n am S H.size (xi xs (i + 1)) (xi xs (i + 2)) hs0.1.1.1 (xi_R _ _) (xi_R _ _) h9) (vx_cwSW 4 hts gL_law_L_trailerAt rfl rfl rfl (by decide +kernel) ⟨Nat.le_of_ble_eq_true rfl, Nat.le_of_ble_eq_true rfl⟩) hKX hG hN hJ rfl hl.1 rfl (Nat.le_of_ble_eq_true rfl) dL_law_1082 ⟨by rw [hr.1]; omega, by rw [hr.2]; omega⟩) hJ (fun k u H hk hp hJ => ?_)
  obtain ⟨n1, am1, S1, rfl, hk1, hn1, hO⟩ := op_trailerAt (nM := nM) (amM := amM) hs0 hW hq (xi xs (i + 1)) (xi xs (i + 2)) hp
  clear hp
  have h91 : 0 < n1 9 := Nat.lt_of_lt_of_le h9 (hn1 9)
  replace hl : lv_has ls 9 [(0, .ref b), (1, .ref (am1 0 0)), (2, .ref (amM 0 0)), (3, .ref (am1 9 0)), (4, .ref oD), (5, .int (iZ i))] := by rw [hk1 0 0 hvX, hk1 9 0 h9]; exact hl
  refine lv_istore (lv' := [(6, .int (iZ k)), (0, .ref b), (1, .ref (am1 0 0)), (2, .ref (amM 0 0)), (3, .ref (am1 9 0)), (4, .ref oD), (5, .int (iZ i))]) hx hb dL_law_1085 hl (by decide) rfl (fun ls hl => ?_)
  refine lv_aload_n hx hb dL_law_1087 rfl (lv_at hl 3 rfl) ?_
  refine lv_aload_n hx hb dL_law_1088 rfl (lv_at hl 1 rfl) ?_
  refine lv_iload hx hb dL_law_1089 (lv_at hl 6 rfl) ?_
  refine z_iconst hx hb dL_law_1091 ?_
  refine z_iadd hx hb dL_law_1092 ?_
  refine lj_rd hx hb hX hbl hJ (by omega) (by omega) (by omega) dL_law_1093 ?_
  refine lv_aload_n hx hb dL_law_1094 rfl (lv_at hl 1 rfl) ?_
  refine lv_iload hx hb dL_law_1095 (lv_at hl 6 rfl) ?_
  refine z_iconst hx hb dL_law_1097 ?_
  refine z_iadd hx hb dL_law_1098 ?_
  refine lj_rd hx hb hX hbl hJ (by omega) (by omega) (by omega) dL_law_1099 ?_
  refine lj_M_i (zrV (As := [.int (iZ (xi xs (i + 1))), .int (iZ (xi xs (i + 2)))]) (rest := []) (κ := 0) (i := 0) ⟨hx, hb, hml, hown, hts⟩ (c_X5_trailerAt l D cM nM amM M H.size (xi xs (i + 1)) (xi xs (i + 2)) hW (xi_R _ _) (xi_R _ _) hs0.1.mR) (cwV 2 hts gL_law_X5_trailerAt rfl rfl rfl (by decide +kernel) ⟨Nat.le_of_ble_eq_true rfl, Nat.le_of_ble_eq_true rfl⟩) hKM hJ.IM hv0 rfl rfl rfl hl.1 rfl (Nat.le_of_ble_eq_true rfl) dL_law_1100 ⟨by rw [hr.1]; omega, by rw [hr.2]; omega⟩) hJ (fun z w H hz hp hJ => ?_)
  obtain ⟨M1, rfl, hW1, h24, hz0, hs1⟩ := hO _ _ hp
  clear hp hO
  refine lv_istore (lv' := [(7, .int (iZ z)), (6, .int (iZ k)), (0, .ref b), (1, .ref (am1 0 0)), (2, .ref (amM 0 0)), (3, .ref (am1 9 0)), (4, .ref oD), (5, .int (iZ i))]) hx hb dL_law_1103 hl (by decide) rfl (fun ls hl => ?_)
  refine lv_aload_n hx hb dL_law_1105 rfl (lv_at hl 4 rfl) ?_
  refine lj_M_i (zrV (As := []) (rest := []) (κ := 0) (i := 0) ⟨hx, hb, hml, hown, hts⟩ (c_X5_thrown l D cM nM amM M1 H.size hW1) (cwV 0 hts gL_law_X5_thrown rfl rfl rfl (by decide +kernel) ⟨Nat.le_of_ble_eq_true rfl, Nat.le_of_ble_eq_true rfl⟩) hKM hJ.IM hv0 rfl rfl rfl hl.1 rfl (Nat.le_of_ble_eq_true rfl) dL_law_1106 ⟨by rw [hr.1]; omega, by rw [hr.2]; omega⟩) hJ (fun z2 w H hz2 hp hJ => ?_)
  obtain ⟨rfl, rfl⟩ := hp
  refine lv_iload hx hb dL_law_1109 (lv_at hl 1 rfl) ?_
  refine z_icmp_eq (tgt := 1116) hx hb dL_law_1111 (by decide) hz2 hk (fun _ => ?_) (fun hz9 => absurd h24 hz9)
  refine lv_iload hx hb dL_law_1116 (lv_at hl 1 rfl) ?_
  refine z_if_ne (tgt := 1133) hx hb dL_law_1118 (by decide) hk (fun hk0 => ?_) (fun hk0 => ?_)
  · refine lv_goto (tgt := 1699) hx hb dL_law_1133 (by decide) ?_
    exact W.widen (by omega) (by omega) (kk _ _ ⟨_, _, _, _, _, _, _, hJ, hs1, hW1, h91, lv_sub hl [2, 3, 4, 5, 6, 7] rfl⟩)
  · refine lv_aload_n hx hb dL_law_1121 rfl (lv_at hl 5 rfl) ?_
    refine z_iconst hx hb dL_law_1122 ?_
    refine za_l (κ := 9) (i := 0) hx hb hKX hJ.IX h91 rfl (by decide) (by decide) (by decide) dL_law_1123 (hz0 hk0) ?_
    refine lv_iload hx hb dL_law_1124 (lv_at hl 0 rfl) ?_
    refine z_i2l hx hb dL_law_1126 hz ?_
    refine lj_lcmp hx hb dL_law_1127 ?_
    refine z_if_eq (tgt := 1133) hx hb dL_law_1128 (by decide) (by decide) (fun _ => ?_) (fun hz9 => absurd rfl hz9)
    refine lv_goto (tgt := 1699) hx hb dL_law_1133 (by decide) ?_
    exact W.widen (by omega) (by omega) (kk _ _ ⟨_, _, _, _, _, _, _, hJ, hs1, hW1, h91, lv_sub hl [2, 3, 4, 5, 6, 7] rfl⟩)
set_option maxHeartbeats 4000000 in
set_option maxRecDepth 100000 in
theorem law_freeDoor {p : Program} {e : Env} {s : State} {m : MethodId} {below : List Frame} {meth : Method} {c : Code} {args : Array Value} {cells slots : Nat} {Q : State → Prop} {H : Heap} {ls : Array Slot} {b L : Nat} {xs : Nat → Int32} {D : va_G} {cX cM : Nat → ClassId} {cD : ClassId} {oD : Nat} {i : Int} {q : Nat} (l : Launch) (hfl : l.stackTraces = false) (hE : lEnv p s m c args b L xs D cX cM cD) (hq : q < 600) (hi : 0 ≤ i ∧ i + 5 ≤ (L : Int) ∧ L ≤ 2560) (h : lInv D cX cM cD oD s b i q H ls) (hc : cells + 8 ≤ 762397) (hs : slots + 40 ≤ 6708562) (kk : ∀ (H : Heap) (ls : Array Slot), lInv D cX cM cD oD s b i (q + 1) H ls → W p l e room_1 s m args below meth c H [] (cells + 8) (slots + 40) Q (F0 m 1699 ls [])) : W p l e room_1 s m args below meth c H [] cells slots Q (F0 m 1136 ls []) := by
  obtain ⟨hx, hb, hml, hown, hts, hKX, hKM, hKD, hG, hN, hX, hbl⟩ := hE
  obtain ⟨n, am, S, nM, amM, M, v, hJ, hs0, hW, h9, hl⟩ := h
  have hr : room_1.cells = 762397 ∧ room_1.slots = 6708562 := ⟨rfl, rfl⟩
  have hv0 : 0 < nM 0 := hW.1 0 (by decide)
  have hvX : 0 < n 0 := hs0.1.1.1.1.1
  refine lv_aload_n hx hb dL_law_1136 rfl (lv_at hl 1 rfl) ?_
  refine lv_aload_n hx hb dL_law_1137 rfl (lv_at hl 0 rfl) ?_
  refine lv_iload hx hb dL_law_1138 (lv_at hl 5 rfl) ?_
  refine z_iconst hx hb dL_law_1140 ?_
  refine z_iadd hx hb dL_law_1141 ?_
  refine lj_rd hx hb hX hbl hJ (by omega) (by omega) (by omega) dL_law_1142 ?_
  refine lv_aload_n hx hb dL_law_1143 rfl (lv_at hl 3 rfl) ?_
  refine lj_X_i (zHS (As := [.ref (am 0 0), .int (iZ (xi xs (i + 1))), .ref (am 9 0)]) (rest := []) ⟨hx, hb, hml, hown, hts⟩ (c_L_freeDoor l hfl D cX n am S H.size (xi xs (i + 1)) hs0.1.1.1 (xi_R _ _) h9) (vx_cwSW 3 hts gL_law_L_freeDoor rfl rfl rfl (by decide +kernel) ⟨Nat.le_of_ble_eq_true rfl, Nat.le_of_ble_eq_true rfl⟩) hKX hG hN hJ rfl hl.1 rfl (Nat.le_of_ble_eq_true rfl) dL_law_1144 ⟨by rw [hr.1]; omega, by rw [hr.2]; omega⟩) hJ (fun k u H hk hp hJ => ?_)
  obtain ⟨n1, am1, S1, rfl, hk1, hn1, hO⟩ := op_freeDoor (nM := nM) (amM := amM) hs0 hW hq (xi xs (i + 1)) hp
  clear hp
  have h91 : 0 < n1 9 := Nat.lt_of_lt_of_le h9 (hn1 9)
  replace hl : lv_has ls 9 [(0, .ref b), (1, .ref (am1 0 0)), (2, .ref (amM 0 0)), (3, .ref (am1 9 0)), (4, .ref oD), (5, .int (iZ i))] := by rw [hk1 0 0 hvX, hk1 9 0 h9]; exact hl
  refine lv_istore (lv' := [(6, .int (iZ k)), (0, .ref b), (1, .ref (am1 0 0)), (2, .ref (amM 0 0)), (3, .ref (am1 9 0)), (4, .ref oD), (5, .int (iZ i))]) hx hb dL_law_1147 hl (by decide) rfl (fun ls hl => ?_)
  refine lv_aload_n hx hb dL_law_1149 rfl (lv_at hl 3 rfl) ?_
  refine lv_aload_n hx hb dL_law_1150 rfl (lv_at hl 1 rfl) ?_
  refine lv_iload hx hb dL_law_1151 (lv_at hl 6 rfl) ?_
  refine z_iconst hx hb dL_law_1153 ?_
  refine z_iadd hx hb dL_law_1154 ?_
  refine lj_rd hx hb hX hbl hJ (by omega) (by omega) (by omega) dL_law_1155 ?_
  refine lj_M_i (zrV (As := [.int (iZ (xi xs (i + 1)))]) (rest := []) (κ := 0) (i := 0) ⟨hx, hb, hml, hown, hts⟩ (c_X5_freeDoor l D cM nM amM M H.size (xi xs (i + 1)) hW (xi_R _ _) hs0.1.mR) (cwV 1 hts gL_law_X5_freeDoor rfl rfl rfl (by decide +kernel) ⟨Nat.le_of_ble_eq_true rfl, Nat.le_of_ble_eq_true rfl⟩) hKM hJ.IM hv0 rfl rfl rfl hl.1 rfl (Nat.le_of_ble_eq_true rfl) dL_law_1156 ⟨by rw [hr.1]; omega, by rw [hr.2]; omega⟩) hJ (fun z w H hz hp hJ => ?_)
  obtain ⟨M1, rfl, hW1, h24, hz0, hs1⟩ := hO _ _ hp
  clear hp hO
  refine lv_istore (lv' := [(7, .int (iZ z)), (6, .int (iZ k)), (0, .ref b), (1, .ref (am1 0 0)), (2, .ref (amM 0 0)), (3, .ref (am1 9 0)), (4, .ref oD), (5, .int (iZ i))]) hx hb dL_law_1159 hl (by decide) rfl (fun ls hl => ?_)
  refine lv_aload_n hx hb dL_law_1161 rfl (lv_at hl 4 rfl) ?_
  refine lj_M_i (zrV (As := []) (rest := []) (κ := 0) (i := 0) ⟨hx, hb, hml, hown, hts⟩ (c_X5_thrown l D cM nM amM M1 H.size hW1) (cwV 0 hts gL_law_X5_thrown rfl rfl rfl (by decide +kernel) ⟨Nat.le_of_ble_eq_true rfl, Nat.le_of_ble_eq_true rfl⟩) hKM hJ.IM hv0 rfl rfl rfl hl.1 rfl (Nat.le_of_ble_eq_true rfl) dL_law_1162 ⟨by rw [hr.1]; omega, by rw [hr.2]; omega⟩) hJ (fun z2 w H hz2 hp hJ => ?_)
  obtain ⟨rfl, rfl⟩ := hp
  refine lv_iload hx hb dL_law_1165 (lv_at hl 1 rfl) ?_
  refine z_icmp_eq (tgt := 1172) hx hb dL_law_1167 (by decide) hz2 hk (fun _ => ?_) (fun hz9 => absurd h24 hz9)
  refine lv_iload hx hb dL_law_1172 (lv_at hl 1 rfl) ?_
  refine z_if_ne (tgt := 1189) hx hb dL_law_1174 (by decide) hk (fun hk0 => ?_) (fun hk0 => ?_)
  · refine lv_goto (tgt := 1699) hx hb dL_law_1189 (by decide) ?_
    exact W.widen (by omega) (by omega) (kk _ _ ⟨_, _, _, _, _, _, _, hJ, hs1, hW1, h91, lv_sub hl [2, 3, 4, 5, 6, 7] rfl⟩)
  · refine lv_aload_n hx hb dL_law_1177 rfl (lv_at hl 5 rfl) ?_
    refine z_iconst hx hb dL_law_1178 ?_
    refine za_l (κ := 9) (i := 0) hx hb hKX hJ.IX h91 rfl (by decide) (by decide) (by decide) dL_law_1179 (hz0 hk0) ?_
    refine lv_iload hx hb dL_law_1180 (lv_at hl 0 rfl) ?_
    refine z_i2l hx hb dL_law_1182 hz ?_
    refine lj_lcmp hx hb dL_law_1183 ?_
    refine z_if_eq (tgt := 1189) hx hb dL_law_1184 (by decide) (by decide) (fun _ => ?_) (fun hz9 => absurd rfl hz9)
    refine lv_goto (tgt := 1699) hx hb dL_law_1189 (by decide) ?_
    exact W.widen (by omega) (by omega) (kk _ _ ⟨_, _, _, _, _, _, _, hJ, hs1, hW1, h91, lv_sub hl [2, 3, 4, 5, 6, 7] rfl⟩)
set_option maxHeartbeats 4000000 in
set_option maxRecDepth 100000 in
theorem law_fewestMoves {p : Program} {e : Env} {s : State} {m : MethodId} {below : List Frame} {meth : Method} {c : Code} {args : Array Value} {cells slots : Nat} {Q : State → Prop} {H : Heap} {ls : Array Slot} {b L : Nat} {xs : Nat → Int32} {D : va_G} {cX cM : Nat → ClassId} {cD : ClassId} {oD : Nat} {i : Int} {q : Nat} (l : Launch) (hfl : l.stackTraces = false) (hE : lEnv p s m c args b L xs D cX cM cD) (hq : q < 600) (hi : 0 ≤ i ∧ i + 5 ≤ (L : Int) ∧ L ≤ 2560) (h : lInv D cX cM cD oD s b i q H ls) (hc : cells + 8 ≤ 762397) (hs : slots + 40 ≤ 6708562) (kk : ∀ (H : Heap) (ls : Array Slot), lInv D cX cM cD oD s b i (q + 1) H ls → W p l e room_1 s m args below meth c H [] (cells + 8) (slots + 40) Q (F0 m 1699 ls [])) : W p l e room_1 s m args below meth c H [] cells slots Q (F0 m 1192 ls []) := by
  obtain ⟨hx, hb, hml, hown, hts, hKX, hKM, hKD, hG, hN, hX, hbl⟩ := hE
  obtain ⟨n, am, S, nM, amM, M, v, hJ, hs0, hW, h9, hl⟩ := h
  have hr : room_1.cells = 762397 ∧ room_1.slots = 6708562 := ⟨rfl, rfl⟩
  have hv0 : 0 < nM 0 := hW.1 0 (by decide)
  have hvX : 0 < n 0 := hs0.1.1.1.1.1
  refine lv_aload_n hx hb dL_law_1192 rfl (lv_at hl 1 rfl) ?_
  refine lv_aload_n hx hb dL_law_1193 rfl (lv_at hl 0 rfl) ?_
  refine lv_iload hx hb dL_law_1194 (lv_at hl 5 rfl) ?_
  refine z_iconst hx hb dL_law_1196 ?_
  refine z_iadd hx hb dL_law_1197 ?_
  refine lj_rd hx hb hX hbl hJ (by omega) (by omega) (by omega) dL_law_1198 ?_
  refine lv_aload_n hx hb dL_law_1199 rfl (lv_at hl 3 rfl) ?_
  refine lj_X_i (zHS (As := [.ref (am 0 0), .int (iZ (xi xs (i + 1))), .ref (am 9 0)]) (rest := []) ⟨hx, hb, hml, hown, hts⟩ (c_L_fewestMoves l hfl D cX n am S H.size (xi xs (i + 1)) (m0 M 0) hs0.1.1.1 (xi_R _ _) hs0.1.1.2.2.1 hs0.1.1.2.2.2 (hs0.1.code 0).2.2.2.2.2.2 h9) (vx_cwSW 3 hts gL_law_L_fewestMoves rfl rfl rfl (by decide +kernel) ⟨Nat.le_of_ble_eq_true rfl, Nat.le_of_ble_eq_true rfl⟩) hKX hG hN hJ rfl hl.1 rfl (Nat.le_of_ble_eq_true rfl) dL_law_1200 ⟨by rw [hr.1]; omega, by rw [hr.2]; omega⟩) hJ (fun k u H hk hp hJ => ?_)
  obtain ⟨n1, am1, S1, rfl, hk1, hn1, hO⟩ := op_fewestMoves (nM := nM) (amM := amM) hs0 hW hq (xi xs (i + 1)) hp
  clear hp
  have h91 : 0 < n1 9 := Nat.lt_of_lt_of_le h9 (hn1 9)
  replace hl : lv_has ls 9 [(0, .ref b), (1, .ref (am1 0 0)), (2, .ref (amM 0 0)), (3, .ref (am1 9 0)), (4, .ref oD), (5, .int (iZ i))] := by rw [hk1 0 0 hvX, hk1 9 0 h9]; exact hl
  refine lv_istore (lv' := [(6, .int (iZ k)), (0, .ref b), (1, .ref (am1 0 0)), (2, .ref (amM 0 0)), (3, .ref (am1 9 0)), (4, .ref oD), (5, .int (iZ i))]) hx hb dL_law_1203 hl (by decide) rfl (fun ls hl => ?_)
  refine lv_aload_n hx hb dL_law_1205 rfl (lv_at hl 3 rfl) ?_
  refine lv_aload_n hx hb dL_law_1206 rfl (lv_at hl 1 rfl) ?_
  refine lv_iload hx hb dL_law_1207 (lv_at hl 6 rfl) ?_
  refine z_iconst hx hb dL_law_1209 ?_
  refine z_iadd hx hb dL_law_1210 ?_
  refine lj_rd hx hb hX hbl hJ (by omega) (by omega) (by omega) dL_law_1211 ?_
  refine lj_M_i (zrV (As := [.int (iZ (xi xs (i + 1)))]) (rest := []) (κ := 0) (i := 0) ⟨hx, hb, hml, hown, hts⟩ (c_X5_fewestMoves l D cM nM amM M H.size (xi xs (i + 1)) hW (xi_R _ _) hs0.1.mR hs0.1.hys hs0.1.Lv) (cwV 1 hts gL_law_X5_fewestMoves rfl rfl rfl (by decide +kernel) ⟨Nat.le_of_ble_eq_true rfl, Nat.le_of_ble_eq_true rfl⟩) hKM hJ.IM hv0 rfl rfl rfl hl.1 rfl (Nat.le_of_ble_eq_true rfl) dL_law_1212 ⟨by rw [hr.1]; omega, by rw [hr.2]; omega⟩) hJ (fun z w H hz hp hJ => ?_)
  obtain ⟨M1, rfl, hW1, h24, hz0, hs1⟩ := hO _ _ hp
  clear hp hO
  refine lv_istore (lv' := [(7, .int (iZ z)), (6, .int (iZ k)), (0, .ref b), (1, .ref (am1 0 0)), (2, .ref (amM 0 0)), (3, .ref (am1 9 0)), (4, .ref oD), (5, .int (iZ i))]) hx hb dL_law_1215 hl (by decide) rfl (fun ls hl => ?_)
  refine lv_aload_n hx hb dL_law_1217 rfl (lv_at hl 4 rfl) ?_
  refine lj_M_i (zrV (As := []) (rest := []) (κ := 0) (i := 0) ⟨hx, hb, hml, hown, hts⟩ (c_X5_thrown l D cM nM amM M1 H.size hW1) (cwV 0 hts gL_law_X5_thrown rfl rfl rfl (by decide +kernel) ⟨Nat.le_of_ble_eq_true rfl, Nat.le_of_ble_eq_true rfl⟩) hKM hJ.IM hv0 rfl rfl rfl hl.1 rfl (Nat.le_of_ble_eq_true rfl) dL_law_1218 ⟨by rw [hr.1]; omega, by rw [hr.2]; omega⟩) hJ (fun z2 w H hz2 hp hJ => ?_)
  obtain ⟨rfl, rfl⟩ := hp
  refine lv_iload hx hb dL_law_1221 (lv_at hl 1 rfl) ?_
  refine z_icmp_eq (tgt := 1228) hx hb dL_law_1223 (by decide) hz2 hk (fun _ => ?_) (fun hz9 => absurd h24 hz9)
  refine lv_iload hx hb dL_law_1228 (lv_at hl 1 rfl) ?_
  refine z_if_ne (tgt := 1245) hx hb dL_law_1230 (by decide) hk (fun hk0 => ?_) (fun hk0 => ?_)
  · refine lv_goto (tgt := 1699) hx hb dL_law_1245 (by decide) ?_
    exact W.widen (by omega) (by omega) (kk _ _ ⟨_, _, _, _, _, _, _, hJ, hs1, hW1, h91, lv_sub hl [2, 3, 4, 5, 6, 7] rfl⟩)
  · refine lv_aload_n hx hb dL_law_1233 rfl (lv_at hl 5 rfl) ?_
    refine z_iconst hx hb dL_law_1234 ?_
    refine za_l (κ := 9) (i := 0) hx hb hKX hJ.IX h91 rfl (by decide) (by decide) (by decide) dL_law_1235 (hz0 hk0) ?_
    refine lv_iload hx hb dL_law_1236 (lv_at hl 0 rfl) ?_
    refine z_i2l hx hb dL_law_1238 hz ?_
    refine lj_lcmp hx hb dL_law_1239 ?_
    refine z_if_eq (tgt := 1245) hx hb dL_law_1240 (by decide) (by decide) (fun _ => ?_) (fun hz9 => absurd rfl hz9)
    refine lv_goto (tgt := 1699) hx hb dL_law_1245 (by decide) ?_
    exact W.widen (by omega) (by omega) (kk _ _ ⟨_, _, _, _, _, _, _, hJ, hs1, hW1, h91, lv_sub hl [2, 3, 4, 5, 6, 7] rfl⟩)
set_option maxHeartbeats 4000000 in
set_option maxRecDepth 100000 in
theorem law_fewestByOrders {p : Program} {e : Env} {s : State} {m : MethodId} {below : List Frame} {meth : Method} {c : Code} {args : Array Value} {cells slots : Nat} {Q : State → Prop} {H : Heap} {ls : Array Slot} {b L : Nat} {xs : Nat → Int32} {D : va_G} {cX cM : Nat → ClassId} {cD : ClassId} {oD : Nat} {i : Int} {q : Nat} (l : Launch) (hfl : l.stackTraces = false) (hE : lEnv p s m c args b L xs D cX cM cD) (hq : q < 600) (hi : 0 ≤ i ∧ i + 5 ≤ (L : Int) ∧ L ≤ 2560) (h : lInv D cX cM cD oD s b i q H ls) (hc : cells + 8 ≤ 762397) (hs : slots + 40 ≤ 6708562) (kk : ∀ (H : Heap) (ls : Array Slot), lInv D cX cM cD oD s b i (q + 1) H ls → W p l e room_1 s m args below meth c H [] (cells + 8) (slots + 40) Q (F0 m 1699 ls [])) : W p l e room_1 s m args below meth c H [] cells slots Q (F0 m 1248 ls []) := by
  obtain ⟨hx, hb, hml, hown, hts, hKX, hKM, hKD, hG, hN, hX, hbl⟩ := hE
  obtain ⟨n, am, S, nM, amM, M, v, hJ, hs0, hW, h9, hl⟩ := h
  have hr : room_1.cells = 762397 ∧ room_1.slots = 6708562 := ⟨rfl, rfl⟩
  have hv0 : 0 < nM 0 := hW.1 0 (by decide)
  have hvX : 0 < n 0 := hs0.1.1.1.1.1
  refine lv_aload_n hx hb dL_law_1248 rfl (lv_at hl 1 rfl) ?_
  refine lv_aload_n hx hb dL_law_1249 rfl (lv_at hl 0 rfl) ?_
  refine lv_iload hx hb dL_law_1250 (lv_at hl 5 rfl) ?_
  refine z_iconst hx hb dL_law_1252 ?_
  refine z_iadd hx hb dL_law_1253 ?_
  refine lj_rd hx hb hX hbl hJ (by omega) (by omega) (by omega) dL_law_1254 ?_
  refine lv_aload_n hx hb dL_law_1255 rfl (lv_at hl 3 rfl) ?_
  refine lj_X_i (zHS (As := [.ref (am 0 0), .int (iZ (xi xs (i + 1))), .ref (am 9 0)]) (rest := []) ⟨hx, hb, hml, hown, hts⟩ (c_L_fewestByOrders l hfl D cX n am S H.size (xi xs (i + 1)) (m0 M 0) hs0.1.1.1 (xi_R _ _) hs0.1.1.2.2.1 hs0.1.1.2.2.2 (hs0.1.code 0).2.2.2.2.2.2 h9) (vx_cwSW 3 hts gL_law_L_fewestByOrders rfl rfl rfl (by decide +kernel) ⟨Nat.le_of_ble_eq_true rfl, Nat.le_of_ble_eq_true rfl⟩) hKX hG hN hJ rfl hl.1 rfl (Nat.le_of_ble_eq_true rfl) dL_law_1256 ⟨by rw [hr.1]; omega, by rw [hr.2]; omega⟩) hJ (fun k u H hk hp hJ => ?_)
  obtain ⟨n1, am1, S1, rfl, hk1, hn1, hO⟩ := op_fewestByOrders (nM := nM) (amM := amM) hs0 hW hq (xi xs (i + 1)) hp
  clear hp
  have h91 : 0 < n1 9 := Nat.lt_of_lt_of_le h9 (hn1 9)
  replace hl : lv_has ls 9 [(0, .ref b), (1, .ref (am1 0 0)), (2, .ref (amM 0 0)), (3, .ref (am1 9 0)), (4, .ref oD), (5, .int (iZ i))] := by rw [hk1 0 0 hvX, hk1 9 0 h9]; exact hl
  refine lv_istore (lv' := [(6, .int (iZ k)), (0, .ref b), (1, .ref (am1 0 0)), (2, .ref (amM 0 0)), (3, .ref (am1 9 0)), (4, .ref oD), (5, .int (iZ i))]) hx hb dL_law_1259 hl (by decide) rfl (fun ls hl => ?_)
  refine lv_aload_n hx hb dL_law_1261 rfl (lv_at hl 3 rfl) ?_
  refine lv_aload_n hx hb dL_law_1262 rfl (lv_at hl 1 rfl) ?_
  refine lv_iload hx hb dL_law_1263 (lv_at hl 6 rfl) ?_
  refine z_iconst hx hb dL_law_1265 ?_
  refine z_iadd hx hb dL_law_1266 ?_
  refine lj_rd hx hb hX hbl hJ (by omega) (by omega) (by omega) dL_law_1267 ?_
  refine lj_M_i (zrV (As := [.int (iZ (xi xs (i + 1)))]) (rest := []) (κ := 0) (i := 0) ⟨hx, hb, hml, hown, hts⟩ (c_X5_fewestByOrders l D cM nM amM M H.size (xi xs (i + 1)) hW (xi_R _ _) hs0.1.mR hs0.1.hys hs0.1.Lv) (cwV 1 hts gL_law_X5_fewestByOrders rfl rfl rfl (by decide +kernel) ⟨Nat.le_of_ble_eq_true rfl, Nat.le_of_ble_eq_true rfl⟩) hKM hJ.IM hv0 rfl rfl rfl hl.1 rfl (Nat.le_of_ble_eq_true rfl) dL_law_1268 ⟨by rw [hr.1]; omega, by rw [hr.2]; omega⟩) hJ (fun z w H hz hp hJ => ?_)
  obtain ⟨M1, rfl, hW1, h24, hz0, hs1⟩ := hO _ _ hp
  clear hp hO
  refine lv_istore (lv' := [(7, .int (iZ z)), (6, .int (iZ k)), (0, .ref b), (1, .ref (am1 0 0)), (2, .ref (amM 0 0)), (3, .ref (am1 9 0)), (4, .ref oD), (5, .int (iZ i))]) hx hb dL_law_1271 hl (by decide) rfl (fun ls hl => ?_)
  refine lv_aload_n hx hb dL_law_1273 rfl (lv_at hl 4 rfl) ?_
  refine lj_M_i (zrV (As := []) (rest := []) (κ := 0) (i := 0) ⟨hx, hb, hml, hown, hts⟩ (c_X5_thrown l D cM nM amM M1 H.size hW1) (cwV 0 hts gL_law_X5_thrown rfl rfl rfl (by decide +kernel) ⟨Nat.le_of_ble_eq_true rfl, Nat.le_of_ble_eq_true rfl⟩) hKM hJ.IM hv0 rfl rfl rfl hl.1 rfl (Nat.le_of_ble_eq_true rfl) dL_law_1274 ⟨by rw [hr.1]; omega, by rw [hr.2]; omega⟩) hJ (fun z2 w H hz2 hp hJ => ?_)
  obtain ⟨rfl, rfl⟩ := hp
  refine lv_iload hx hb dL_law_1277 (lv_at hl 1 rfl) ?_
  refine z_icmp_eq (tgt := 1284) hx hb dL_law_1279 (by decide) hz2 hk (fun _ => ?_) (fun hz9 => absurd h24 hz9)
  refine lv_iload hx hb dL_law_1284 (lv_at hl 1 rfl) ?_
  refine z_if_ne (tgt := 1301) hx hb dL_law_1286 (by decide) hk (fun hk0 => ?_) (fun hk0 => ?_)
  · refine lv_goto (tgt := 1699) hx hb dL_law_1301 (by decide) ?_
    exact W.widen (by omega) (by omega) (kk _ _ ⟨_, _, _, _, _, _, _, hJ, hs1, hW1, h91, lv_sub hl [2, 3, 4, 5, 6, 7] rfl⟩)
  · refine lv_aload_n hx hb dL_law_1289 rfl (lv_at hl 5 rfl) ?_
    refine z_iconst hx hb dL_law_1290 ?_
    refine za_l (κ := 9) (i := 0) hx hb hKX hJ.IX h91 rfl (by decide) (by decide) (by decide) dL_law_1291 (hz0 hk0) ?_
    refine lv_iload hx hb dL_law_1292 (lv_at hl 0 rfl) ?_
    refine z_i2l hx hb dL_law_1294 hz ?_
    refine lj_lcmp hx hb dL_law_1295 ?_
    refine z_if_eq (tgt := 1301) hx hb dL_law_1296 (by decide) (by decide) (fun _ => ?_) (fun hz9 => absurd rfl hz9)
    refine lv_goto (tgt := 1699) hx hb dL_law_1301 (by decide) ?_
    exact W.widen (by omega) (by omega) (kk _ _ ⟨_, _, _, _, _, _, _, hJ, hs1, hW1, h91, lv_sub hl [2, 3, 4, 5, 6, 7] rfl⟩)
set_option maxHeartbeats 4000000 in
set_option maxRecDepth 100000 in
theorem law_pass {p : Program} {e : Env} {s : State} {m : MethodId} {below : List Frame} {meth : Method} {c : Code} {args : Array Value} {cells slots : Nat} {Q : State → Prop} {H : Heap} {ls : Array Slot} {b L : Nat} {xs : Nat → Int32} {D : va_G} {cX cM : Nat → ClassId} {cD : ClassId} {oD : Nat} {i : Int} {q : Nat} (l : Launch) (hfl : l.stackTraces = false) (hE : lEnv p s m c args b L xs D cX cM cD) (hq : q < 600) (hi : 0 ≤ i ∧ i + 5 ≤ (L : Int) ∧ L ≤ 2560) (h : lInv D cX cM cD oD s b i q H ls) (hc : cells + 8 ≤ 762397) (hs : slots + 40 ≤ 6708562) (kk : ∀ (H : Heap) (ls : Array Slot), lInv D cX cM cD oD s b i (q + 1) H ls → W p l e room_1 s m args below meth c H [] (cells + 8) (slots + 40) Q (F0 m 1699 ls [])) : W p l e room_1 s m args below meth c H [] cells slots Q (F0 m 1304 ls []) := by
  obtain ⟨hx, hb, hml, hown, hts, hKX, hKM, hKD, hG, hN, hX, hbl⟩ := hE
  obtain ⟨n, am, S, nM, amM, M, v, hJ, hs0, hW, h9, hl⟩ := h
  have hr : room_1.cells = 762397 ∧ room_1.slots = 6708562 := ⟨rfl, rfl⟩
  have hv0 : 0 < nM 0 := hW.1 0 (by decide)
  have hvX : 0 < n 0 := hs0.1.1.1.1.1
  refine lv_aload_n hx hb dL_law_1304 rfl (lv_at hl 1 rfl) ?_
  refine lv_aload_n hx hb dL_law_1305 rfl (lv_at hl 0 rfl) ?_
  refine lv_iload hx hb dL_law_1306 (lv_at hl 5 rfl) ?_
  refine z_iconst hx hb dL_law_1308 ?_
  refine z_iadd hx hb dL_law_1309 ?_
  refine lj_rd hx hb hX hbl hJ (by omega) (by omega) (by omega) dL_law_1310 ?_
  refine lv_aload_n hx hb dL_law_1311 rfl (lv_at hl 3 rfl) ?_
  refine lj_X_i (zHS (As := [.ref (am 0 0), .int (iZ (xi xs (i + 1))), .ref (am 9 0)]) (rest := []) ⟨hx, hb, hml, hown, hts⟩ (c_L_pass l hfl D cX n am S H.size (xi xs (i + 1)) hs0.1.1.1 (xi_R _ _) hs0.1.1.2.2.1 (by have := hs0.2.1; omega) h9) (vx_cwSW 3 hts gL_law_L_pass rfl rfl rfl (by decide +kernel) ⟨Nat.le_of_ble_eq_true rfl, Nat.le_of_ble_eq_true rfl⟩) hKX hG hN hJ rfl hl.1 rfl (Nat.le_of_ble_eq_true rfl) dL_law_1312 ⟨by rw [hr.1]; omega, by rw [hr.2]; omega⟩) hJ (fun k u H hk hp hJ => ?_)
  obtain ⟨n1, am1, S1, rfl, hk1, hn1, hO⟩ := op_pass (nM := nM) (amM := amM) hs0 hW hq (xi xs (i + 1)) hp
  clear hp
  have h91 : 0 < n1 9 := Nat.lt_of_lt_of_le h9 (hn1 9)
  replace hl : lv_has ls 9 [(0, .ref b), (1, .ref (am1 0 0)), (2, .ref (amM 0 0)), (3, .ref (am1 9 0)), (4, .ref oD), (5, .int (iZ i))] := by rw [hk1 0 0 hvX, hk1 9 0 h9]; exact hl
  refine lv_istore (lv' := [(6, .int (iZ k)), (0, .ref b), (1, .ref (am1 0 0)), (2, .ref (amM 0 0)), (3, .ref (am1 9 0)), (4, .ref oD), (5, .int (iZ i))]) hx hb dL_law_1315 hl (by decide) rfl (fun ls hl => ?_)
  refine lv_aload_n hx hb dL_law_1317 rfl (lv_at hl 3 rfl) ?_
  refine lv_aload_n hx hb dL_law_1318 rfl (lv_at hl 1 rfl) ?_
  refine lv_iload hx hb dL_law_1319 (lv_at hl 6 rfl) ?_
  refine z_iconst hx hb dL_law_1321 ?_
  refine z_iadd hx hb dL_law_1322 ?_
  refine lj_rd hx hb hX hbl hJ (by omega) (by omega) (by omega) dL_law_1323 ?_
  refine lj_M_i (zrV (As := [.int (iZ (xi xs (i + 1)))]) (rest := []) (κ := 0) (i := 0) ⟨hx, hb, hml, hown, hts⟩ (c_X5_pass l D cM nM amM M H.size (xi xs (i + 1)) hW (xi_R _ _) hs0.1.mR (lNs hs0.1) (by have := hs0.2.1; have := hs0.m21.1; omega)) (cwV 1 hts gL_law_X5_pass rfl rfl rfl (by decide +kernel) ⟨Nat.le_of_ble_eq_true rfl, Nat.le_of_ble_eq_true rfl⟩) hKM hJ.IM hv0 rfl rfl rfl hl.1 rfl (Nat.le_of_ble_eq_true rfl) dL_law_1324 ⟨by rw [hr.1]; omega, by rw [hr.2]; omega⟩) hJ (fun z w H hz hp hJ => ?_)
  obtain ⟨M1, rfl, hW1, h24, hz0, hs1⟩ := hO _ _ hp
  clear hp hO
  refine lv_istore (lv' := [(7, .int (iZ z)), (6, .int (iZ k)), (0, .ref b), (1, .ref (am1 0 0)), (2, .ref (amM 0 0)), (3, .ref (am1 9 0)), (4, .ref oD), (5, .int (iZ i))]) hx hb dL_law_1327 hl (by decide) rfl (fun ls hl => ?_)
  refine lv_aload_n hx hb dL_law_1329 rfl (lv_at hl 4 rfl) ?_
  refine lj_M_i (zrV (As := []) (rest := []) (κ := 0) (i := 0) ⟨hx, hb, hml, hown, hts⟩ (c_X5_thrown l D cM nM amM M1 H.size hW1) (cwV 0 hts gL_law_X5_thrown rfl rfl rfl (by decide +kernel) ⟨Nat.le_of_ble_eq_true rfl, Nat.le_of_ble_eq_true rfl⟩) hKM hJ.IM hv0 rfl rfl rfl hl.1 rfl (Nat.le_of_ble_eq_true rfl) dL_law_1330 ⟨by rw [hr.1]; omega, by rw [hr.2]; omega⟩) hJ (fun z2 w H hz2 hp hJ => ?_)
  obtain ⟨rfl, rfl⟩ := hp
  refine lv_iload hx hb dL_law_1333 (lv_at hl 1 rfl) ?_
  refine z_icmp_eq (tgt := 1340) hx hb dL_law_1335 (by decide) hz2 hk (fun _ => ?_) (fun hz9 => absurd h24 hz9)
  refine lv_iload hx hb dL_law_1340 (lv_at hl 1 rfl) ?_
  refine z_if_ne (tgt := 1357) hx hb dL_law_1342 (by decide) hk (fun hk0 => ?_) (fun hk0 => ?_)
  · refine lv_goto (tgt := 1699) hx hb dL_law_1357 (by decide) ?_
    exact W.widen (by omega) (by omega) (kk _ _ ⟨_, _, _, _, _, _, _, hJ, hs1, hW1, h91, lv_sub hl [2, 3, 4, 5, 6, 7] rfl⟩)
  · refine lv_aload_n hx hb dL_law_1345 rfl (lv_at hl 5 rfl) ?_
    refine z_iconst hx hb dL_law_1346 ?_
    refine za_l (κ := 9) (i := 0) hx hb hKX hJ.IX h91 rfl (by decide) (by decide) (by decide) dL_law_1347 (hz0 hk0) ?_
    refine lv_iload hx hb dL_law_1348 (lv_at hl 0 rfl) ?_
    refine z_i2l hx hb dL_law_1350 hz ?_
    refine lj_lcmp hx hb dL_law_1351 ?_
    refine z_if_eq (tgt := 1357) hx hb dL_law_1352 (by decide) (by decide) (fun _ => ?_) (fun hz9 => absurd rfl hz9)
    refine lv_goto (tgt := 1699) hx hb dL_law_1357 (by decide) ?_
    exact W.widen (by omega) (by omega) (kk _ _ ⟨_, _, _, _, _, _, _, hJ, hs1, hW1, h91, lv_sub hl [2, 3, 4, 5, 6, 7] rfl⟩)
set_option maxHeartbeats 4000000 in
set_option maxRecDepth 100000 in
theorem law_time {p : Program} {e : Env} {s : State} {m : MethodId} {below : List Frame} {meth : Method} {c : Code} {args : Array Value} {cells slots : Nat} {Q : State → Prop} {H : Heap} {ls : Array Slot} {b L : Nat} {xs : Nat → Int32} {D : va_G} {cX cM : Nat → ClassId} {cD : ClassId} {oD : Nat} {i : Int} {q : Nat} (l : Launch) (hfl : l.stackTraces = false) (hE : lEnv p s m c args b L xs D cX cM cD) (hq : q < 600) (hi : 0 ≤ i ∧ i + 5 ≤ (L : Int) ∧ L ≤ 2560) (h : lInv D cX cM cD oD s b i q H ls) (hc : cells + 8 ≤ 762397) (hs : slots + 40 ≤ 6708562) (kk : ∀ (H : Heap) (ls : Array Slot), lInv D cX cM cD oD s b i (q + 1) H ls → W p l e room_1 s m args below meth c H [] (cells + 8) (slots + 40) Q (F0 m 1699 ls [])) : W p l e room_1 s m args below meth c H [] cells slots Q (F0 m 1360 ls []) := by
  obtain ⟨hx, hb, hml, hown, hts, hKX, hKM, hKD, hG, hN, hX, hbl⟩ := hE
  obtain ⟨n, am, S, nM, amM, M, v, hJ, hs0, hW, h9, hl⟩ := h
  have hr : room_1.cells = 762397 ∧ room_1.slots = 6708562 := ⟨rfl, rfl⟩
  have hv0 : 0 < nM 0 := hW.1 0 (by decide)
  have hvX : 0 < n 0 := hs0.1.1.1.1.1
  refine lv_aload_n hx hb dL_law_1360 rfl (lv_at hl 1 rfl) ?_
  refine lj_X_i (zrV (As := []) (rest := []) (κ := 0) (i := 0) ⟨hx, hb, hml, hown, hts⟩ (c_X4_time l D cX n am S H.size hs0.1.1.1) (cwV 0 hts gL_law_X4_time rfl rfl rfl (by decide +kernel) ⟨Nat.le_of_ble_eq_true rfl, Nat.le_of_ble_eq_true rfl⟩) hKX hJ.IX hvX rfl rfl rfl hl.1 rfl (Nat.le_of_ble_eq_true rfl) dL_law_1361 ⟨by rw [hr.1]; omega, by rw [hr.2]; omega⟩) hJ (fun z u H hz1 hp hJ => ?_)
  obtain ⟨rfl, rfl⟩ := hp
  refine lv_aload_n hx hb dL_law_1364 rfl (lv_at hl 2 rfl) ?_
  refine lj_M_i (zrV (As := []) (rest := [.int (iZ (S 0 0 10))]) (κ := 0) (i := 0) ⟨hx, hb, hml, hown, hts⟩ (c_X5_time l D cM nM amM M H.size hW hs0.1.mR) (cwV 0 hts gL_law_X5_time rfl rfl rfl (by decide +kernel) ⟨Nat.le_of_ble_eq_true rfl, Nat.le_of_ble_eq_true rfl⟩) hKM hJ.IM hv0 rfl rfl rfl hl.1 rfl (Nat.le_of_ble_eq_true rfl) dL_law_1365 ⟨by rw [hr.1]; omega, by rw [hr.2]; omega⟩) hJ (fun z w H hz2 hp hJ => ?_)
  obtain ⟨rfl, rfl⟩ := hp
  refine z_icmp_eq (tgt := 1699) hx hb dL_law_1368 (by decide) hz1 hz2 (fun _ => ?_) (fun hz9 => absurd hs0.m21.1.symm hz9)
  exact W.widen (by omega) (by omega) (kk _ _ ⟨_, _, _, _, _, _, _, hJ, hs0.code 0, hW.put rfl, h9, hl⟩)
set_option maxHeartbeats 4000000 in
set_option maxRecDepth 100000 in
theorem law_waited {p : Program} {e : Env} {s : State} {m : MethodId} {below : List Frame} {meth : Method} {c : Code} {args : Array Value} {cells slots : Nat} {Q : State → Prop} {H : Heap} {ls : Array Slot} {b L : Nat} {xs : Nat → Int32} {D : va_G} {cX cM : Nat → ClassId} {cD : ClassId} {oD : Nat} {i : Int} {q : Nat} (l : Launch) (hfl : l.stackTraces = false) (hE : lEnv p s m c args b L xs D cX cM cD) (hq : q < 600) (hi : 0 ≤ i ∧ i + 5 ≤ (L : Int) ∧ L ≤ 2560) (h : lInv D cX cM cD oD s b i q H ls) (hc : cells + 8 ≤ 762397) (hs : slots + 40 ≤ 6708562) (kk : ∀ (H : Heap) (ls : Array Slot), lInv D cX cM cD oD s b i (q + 1) H ls → W p l e room_1 s m args below meth c H [] (cells + 8) (slots + 40) Q (F0 m 1699 ls [])) : W p l e room_1 s m args below meth c H [] cells slots Q (F0 m 1373 ls []) := by
  obtain ⟨hx, hb, hml, hown, hts, hKX, hKM, hKD, hG, hN, hX, hbl⟩ := hE
  obtain ⟨n, am, S, nM, amM, M, v, hJ, hs0, hW, h9, hl⟩ := h
  have hr : room_1.cells = 762397 ∧ room_1.slots = 6708562 := ⟨rfl, rfl⟩
  have hv0 : 0 < nM 0 := hW.1 0 (by decide)
  have hvX : 0 < n 0 := hs0.1.1.1.1.1
  refine lv_aload_n hx hb dL_law_1373 rfl (lv_at hl 1 rfl) ?_
  refine lv_aload_n hx hb dL_law_1374 rfl (lv_at hl 0 rfl) ?_
  refine lv_iload hx hb dL_law_1375 (lv_at hl 5 rfl) ?_
  refine z_iconst hx hb dL_law_1377 ?_
  refine z_iadd hx hb dL_law_1378 ?_
  refine lj_rd hx hb hX hbl hJ (by omega) (by omega) (by omega) dL_law_1379 ?_
  refine lv_aload_n hx hb dL_law_1380 rfl (lv_at hl 3 rfl) ?_
  refine lj_X_i (zHS (As := [.ref (am 0 0), .int (iZ (xi xs (i + 1))), .ref (am 9 0)]) (rest := []) ⟨hx, hb, hml, hown, hts⟩ (c_L_waited l hfl D cX n am S H.size (xi xs (i + 1)) hs0.1.1.1 (xi_R _ _) h9) (vx_cwSW 3 hts gL_law_L_waited rfl rfl rfl (by decide +kernel) ⟨Nat.le_of_ble_eq_true rfl, Nat.le_of_ble_eq_true rfl⟩) hKX hG hN hJ rfl hl.1 rfl (Nat.le_of_ble_eq_true rfl) dL_law_1381 ⟨by rw [hr.1]; omega, by rw [hr.2]; omega⟩) hJ (fun k u H hk hp hJ => ?_)
  obtain ⟨n1, am1, S1, rfl, hk1, hn1, hO⟩ := op_waited (nM := nM) (amM := amM) hs0 hW hq (xi xs (i + 1)) hp
  clear hp
  have h91 : 0 < n1 9 := Nat.lt_of_lt_of_le h9 (hn1 9)
  replace hl : lv_has ls 9 [(0, .ref b), (1, .ref (am1 0 0)), (2, .ref (amM 0 0)), (3, .ref (am1 9 0)), (4, .ref oD), (5, .int (iZ i))] := by rw [hk1 0 0 hvX, hk1 9 0 h9]; exact hl
  refine lv_istore (lv' := [(6, .int (iZ k)), (0, .ref b), (1, .ref (am1 0 0)), (2, .ref (amM 0 0)), (3, .ref (am1 9 0)), (4, .ref oD), (5, .int (iZ i))]) hx hb dL_law_1384 hl (by decide) rfl (fun ls hl => ?_)
  refine lv_aload_n hx hb dL_law_1386 rfl (lv_at hl 3 rfl) ?_
  refine lv_aload_n hx hb dL_law_1387 rfl (lv_at hl 1 rfl) ?_
  refine lv_iload hx hb dL_law_1388 (lv_at hl 6 rfl) ?_
  refine z_iconst hx hb dL_law_1390 ?_
  refine z_iadd hx hb dL_law_1391 ?_
  refine lj_rd hx hb hX hbl hJ (by omega) (by omega) (by omega) dL_law_1392 ?_
  refine lj_M_i (zrV (As := [.int (iZ (xi xs (i + 1)))]) (rest := []) (κ := 0) (i := 0) ⟨hx, hb, hml, hown, hts⟩ (c_X5_waited l D cM nM amM M H.size (xi xs (i + 1)) hW (xi_R _ _) hs0.1.mR) (cwV 1 hts gL_law_X5_waited rfl rfl rfl (by decide +kernel) ⟨Nat.le_of_ble_eq_true rfl, Nat.le_of_ble_eq_true rfl⟩) hKM hJ.IM hv0 rfl rfl rfl hl.1 rfl (Nat.le_of_ble_eq_true rfl) dL_law_1393 ⟨by rw [hr.1]; omega, by rw [hr.2]; omega⟩) hJ (fun z w H hz hp hJ => ?_)
  obtain ⟨M1, rfl, hW1, h24, hz0, hs1⟩ := hO _ _ hp
  clear hp hO
  refine lv_istore (lv' := [(7, .int (iZ z)), (6, .int (iZ k)), (0, .ref b), (1, .ref (am1 0 0)), (2, .ref (amM 0 0)), (3, .ref (am1 9 0)), (4, .ref oD), (5, .int (iZ i))]) hx hb dL_law_1396 hl (by decide) rfl (fun ls hl => ?_)
  refine lv_aload_n hx hb dL_law_1398 rfl (lv_at hl 4 rfl) ?_
  refine lj_M_i (zrV (As := []) (rest := []) (κ := 0) (i := 0) ⟨hx, hb, hml, hown, hts⟩ (c_X5_thrown l D cM nM amM M1 H.size hW1) (cwV 0 hts gL_law_X5_thrown rfl rfl rfl (by decide +kernel) ⟨Nat.le_of_ble_eq_true rfl, Nat.le_of_ble_eq_true rfl⟩) hKM hJ.IM hv0 rfl rfl rfl hl.1 rfl (Nat.le_of_ble_eq_true rfl) dL_law_1399 ⟨by rw [hr.1]; omega, by rw [hr.2]; omega⟩) hJ (fun z2 w H hz2 hp hJ => ?_)
  obtain ⟨rfl, rfl⟩ := hp
  refine lv_iload hx hb dL_law_1402 (lv_at hl 1 rfl) ?_
  refine z_icmp_eq (tgt := 1409) hx hb dL_law_1404 (by decide) hz2 hk (fun _ => ?_) (fun hz9 => absurd h24 hz9)
  refine lv_iload hx hb dL_law_1409 (lv_at hl 1 rfl) ?_
  refine z_if_ne (tgt := 1426) hx hb dL_law_1411 (by decide) hk (fun hk0 => ?_) (fun hk0 => ?_)
  · refine lv_goto (tgt := 1699) hx hb dL_law_1426 (by decide) ?_
    exact W.widen (by omega) (by omega) (kk _ _ ⟨_, _, _, _, _, _, _, hJ, hs1, hW1, h91, lv_sub hl [2, 3, 4, 5, 6, 7] rfl⟩)
  · refine lv_aload_n hx hb dL_law_1414 rfl (lv_at hl 5 rfl) ?_
    refine z_iconst hx hb dL_law_1415 ?_
    refine za_l (κ := 9) (i := 0) hx hb hKX hJ.IX h91 rfl (by decide) (by decide) (by decide) dL_law_1416 (hz0 hk0) ?_
    refine lv_iload hx hb dL_law_1417 (lv_at hl 0 rfl) ?_
    refine z_i2l hx hb dL_law_1419 hz ?_
    refine lj_lcmp hx hb dL_law_1420 ?_
    refine z_if_eq (tgt := 1426) hx hb dL_law_1421 (by decide) (by decide) (fun _ => ?_) (fun hz9 => absurd rfl hz9)
    refine lv_goto (tgt := 1699) hx hb dL_law_1426 (by decide) ?_
    exact W.widen (by omega) (by omega) (kk _ _ ⟨_, _, _, _, _, _, _, hJ, hs1, hW1, h91, lv_sub hl [2, 3, 4, 5, 6, 7] rfl⟩)
set_option maxHeartbeats 4000000 in
set_option maxRecDepth 100000 in
theorem law_charge {p : Program} {e : Env} {s : State} {m : MethodId} {below : List Frame} {meth : Method} {c : Code} {args : Array Value} {cells slots : Nat} {Q : State → Prop} {H : Heap} {ls : Array Slot} {b L : Nat} {xs : Nat → Int32} {D : va_G} {cX cM : Nat → ClassId} {cD : ClassId} {oD : Nat} {i : Int} {q : Nat} (l : Launch) (hfl : l.stackTraces = false) (hE : lEnv p s m c args b L xs D cX cM cD) (hq : q < 600) (hi : 0 ≤ i ∧ i + 5 ≤ (L : Int) ∧ L ≤ 2560) (h : lInv D cX cM cD oD s b i q H ls) (hc : cells + 8 ≤ 762397) (hs : slots + 40 ≤ 6708562) (kk : ∀ (H : Heap) (ls : Array Slot), lInv D cX cM cD oD s b i (q + 1) H ls → W p l e room_1 s m args below meth c H [] (cells + 8) (slots + 40) Q (F0 m 1699 ls [])) : W p l e room_1 s m args below meth c H [] cells slots Q (F0 m 1429 ls []) := by
  obtain ⟨hx, hb, hml, hown, hts, hKX, hKM, hKD, hG, hN, hX, hbl⟩ := hE
  obtain ⟨n, am, S, nM, amM, M, v, hJ, hs0, hW, h9, hl⟩ := h
  have hr : room_1.cells = 762397 ∧ room_1.slots = 6708562 := ⟨rfl, rfl⟩
  have hv0 : 0 < nM 0 := hW.1 0 (by decide)
  have hvX : 0 < n 0 := hs0.1.1.1.1.1
  refine lv_aload_n hx hb dL_law_1429 rfl (lv_at hl 1 rfl) ?_
  refine lv_aload_n hx hb dL_law_1430 rfl (lv_at hl 0 rfl) ?_
  refine lv_iload hx hb dL_law_1431 (lv_at hl 5 rfl) ?_
  refine z_iconst hx hb dL_law_1433 ?_
  refine z_iadd hx hb dL_law_1434 ?_
  refine lj_rd hx hb hX hbl hJ (by omega) (by omega) (by omega) dL_law_1435 ?_
  refine lv_aload_n hx hb dL_law_1436 rfl (lv_at hl 3 rfl) ?_
  refine lj_X_i (zHS (As := [.ref (am 0 0), .int (iZ (xi xs (i + 1))), .ref (am 9 0)]) (rest := []) ⟨hx, hb, hml, hown, hts⟩ (c_L_charge l hfl D cX n am S H.size (xi xs (i + 1)) hs0.1.1.1 (xi_R _ _) hs0.1.1.2.2.1 h9) (vx_cwSW 3 hts gL_law_L_charge rfl rfl rfl (by decide +kernel) ⟨Nat.le_of_ble_eq_true rfl, Nat.le_of_ble_eq_true rfl⟩) hKX hG hN hJ rfl hl.1 rfl (Nat.le_of_ble_eq_true rfl) dL_law_1437 ⟨by rw [hr.1]; omega, by rw [hr.2]; omega⟩) hJ (fun k u H hk hp hJ => ?_)
  obtain ⟨n1, am1, S1, rfl, hk1, hn1, hO⟩ := op_charge (nM := nM) (amM := amM) hs0 hW hq (xi xs (i + 1)) hp
  clear hp
  have h91 : 0 < n1 9 := Nat.lt_of_lt_of_le h9 (hn1 9)
  replace hl : lv_has ls 9 [(0, .ref b), (1, .ref (am1 0 0)), (2, .ref (amM 0 0)), (3, .ref (am1 9 0)), (4, .ref oD), (5, .int (iZ i))] := by rw [hk1 0 0 hvX, hk1 9 0 h9]; exact hl
  refine lv_istore (lv' := [(6, .int (iZ k)), (0, .ref b), (1, .ref (am1 0 0)), (2, .ref (amM 0 0)), (3, .ref (am1 9 0)), (4, .ref oD), (5, .int (iZ i))]) hx hb dL_law_1440 hl (by decide) rfl (fun ls hl => ?_)
  refine lv_aload_n hx hb dL_law_1442 rfl (lv_at hl 3 rfl) ?_
  refine lv_aload_n hx hb dL_law_1443 rfl (lv_at hl 1 rfl) ?_
  refine lv_iload hx hb dL_law_1444 (lv_at hl 6 rfl) ?_
  refine z_iconst hx hb dL_law_1446 ?_
  refine z_iadd hx hb dL_law_1447 ?_
  refine lj_rd hx hb hX hbl hJ (by omega) (by omega) (by omega) dL_law_1448 ?_
  refine lj_M_i (zrV (As := [.int (iZ (xi xs (i + 1)))]) (rest := []) (κ := 0) (i := 0) ⟨hx, hb, hml, hown, hts⟩ (c_X5_charge l D cM nM amM M H.size (xi xs (i + 1)) hW (xi_R _ _) hs0.1.mR) (cwV 1 hts gL_law_X5_charge rfl rfl rfl (by decide +kernel) ⟨Nat.le_of_ble_eq_true rfl, Nat.le_of_ble_eq_true rfl⟩) hKM hJ.IM hv0 rfl rfl rfl hl.1 rfl (Nat.le_of_ble_eq_true rfl) dL_law_1449 ⟨by rw [hr.1]; omega, by rw [hr.2]; omega⟩) hJ (fun z w H hz hp hJ => ?_)
  obtain ⟨M1, rfl, hW1, h24, hz0, hs1⟩ := hO _ _ hp
  clear hp hO
  refine lv_istore (lv' := [(7, .int (iZ z)), (6, .int (iZ k)), (0, .ref b), (1, .ref (am1 0 0)), (2, .ref (amM 0 0)), (3, .ref (am1 9 0)), (4, .ref oD), (5, .int (iZ i))]) hx hb dL_law_1452 hl (by decide) rfl (fun ls hl => ?_)
  refine lv_aload_n hx hb dL_law_1454 rfl (lv_at hl 4 rfl) ?_
  refine lj_M_i (zrV (As := []) (rest := []) (κ := 0) (i := 0) ⟨hx, hb, hml, hown, hts⟩ (c_X5_thrown l D cM nM amM M1 H.size hW1) (cwV 0 hts gL_law_X5_thrown rfl rfl rfl (by decide +kernel) ⟨Nat.le_of_ble_eq_true rfl, Nat.le_of_ble_eq_true rfl⟩) hKM hJ.IM hv0 rfl rfl rfl hl.1 rfl (Nat.le_of_ble_eq_true rfl) dL_law_1455 ⟨by rw [hr.1]; omega, by rw [hr.2]; omega⟩) hJ (fun z2 w H hz2 hp hJ => ?_)
  obtain ⟨rfl, rfl⟩ := hp
  refine lv_iload hx hb dL_law_1458 (lv_at hl 1 rfl) ?_
  refine z_icmp_eq (tgt := 1465) hx hb dL_law_1460 (by decide) hz2 hk (fun _ => ?_) (fun hz9 => absurd h24 hz9)
  refine lv_iload hx hb dL_law_1465 (lv_at hl 1 rfl) ?_
  refine z_if_ne (tgt := 1482) hx hb dL_law_1467 (by decide) hk (fun hk0 => ?_) (fun hk0 => ?_)
  · refine lv_goto (tgt := 1699) hx hb dL_law_1482 (by decide) ?_
    exact W.widen (by omega) (by omega) (kk _ _ ⟨_, _, _, _, _, _, _, hJ, hs1, hW1, h91, lv_sub hl [2, 3, 4, 5, 6, 7] rfl⟩)
  · refine lv_aload_n hx hb dL_law_1470 rfl (lv_at hl 5 rfl) ?_
    refine z_iconst hx hb dL_law_1471 ?_
    refine za_l (κ := 9) (i := 0) hx hb hKX hJ.IX h91 rfl (by decide) (by decide) (by decide) dL_law_1472 (hz0 hk0) ?_
    refine lv_iload hx hb dL_law_1473 (lv_at hl 0 rfl) ?_
    refine z_i2l hx hb dL_law_1475 hz ?_
    refine lj_lcmp hx hb dL_law_1476 ?_
    refine z_if_eq (tgt := 1482) hx hb dL_law_1477 (by decide) (by decide) (fun _ => ?_) (fun hz9 => absurd rfl hz9)
    refine lv_goto (tgt := 1699) hx hb dL_law_1482 (by decide) ?_
    exact W.widen (by omega) (by omega) (kk _ _ ⟨_, _, _, _, _, _, _, hJ, hs1, hW1, h91, lv_sub hl [2, 3, 4, 5, 6, 7] rfl⟩)
set_option maxHeartbeats 4000000 in
set_option maxRecDepth 100000 in
theorem law_chargeByHours {p : Program} {e : Env} {s : State} {m : MethodId} {below : List Frame} {meth : Method} {c : Code} {args : Array Value} {cells slots : Nat} {Q : State → Prop} {H : Heap} {ls : Array Slot} {b L : Nat} {xs : Nat → Int32} {D : va_G} {cX cM : Nat → ClassId} {cD : ClassId} {oD : Nat} {i : Int} {q : Nat} (l : Launch) (hfl : l.stackTraces = false) (hE : lEnv p s m c args b L xs D cX cM cD) (hq : q < 600) (hi : 0 ≤ i ∧ i + 5 ≤ (L : Int) ∧ L ≤ 2560) (h : lInv D cX cM cD oD s b i q H ls) (hc : cells + 8 ≤ 762397) (hs : slots + 40 ≤ 6708562) (kk : ∀ (H : Heap) (ls : Array Slot), lInv D cX cM cD oD s b i (q + 1) H ls → W p l e room_1 s m args below meth c H [] (cells + 8) (slots + 40) Q (F0 m 1699 ls [])) : W p l e room_1 s m args below meth c H [] cells slots Q (F0 m 1485 ls []) := by
  obtain ⟨hx, hb, hml, hown, hts, hKX, hKM, hKD, hG, hN, hX, hbl⟩ := hE
  obtain ⟨n, am, S, nM, amM, M, v, hJ, hs0, hW, h9, hl⟩ := h
  have hr : room_1.cells = 762397 ∧ room_1.slots = 6708562 := ⟨rfl, rfl⟩
  have hv0 : 0 < nM 0 := hW.1 0 (by decide)
  have hvX : 0 < n 0 := hs0.1.1.1.1.1
  refine lv_aload_n hx hb dL_law_1485 rfl (lv_at hl 1 rfl) ?_
  refine lv_aload_n hx hb dL_law_1486 rfl (lv_at hl 0 rfl) ?_
  refine lv_iload hx hb dL_law_1487 (lv_at hl 5 rfl) ?_
  refine z_iconst hx hb dL_law_1489 ?_
  refine z_iadd hx hb dL_law_1490 ?_
  refine lj_rd hx hb hX hbl hJ (by omega) (by omega) (by omega) dL_law_1491 ?_
  refine lv_aload_n hx hb dL_law_1492 rfl (lv_at hl 3 rfl) ?_
  refine lj_X_i (zHS (As := [.ref (am 0 0), .int (iZ (xi xs (i + 1))), .ref (am 9 0)]) (rest := []) ⟨hx, hb, hml, hown, hts⟩ (c_L_chargeByHours l hfl D cX n am S H.size (xi xs (i + 1)) hs0.1.1.1 (xi_R _ _) hs0.1.1.2.2.1 h9) (vx_cwSW 3 hts gL_law_L_chargeByHours rfl rfl rfl (by decide +kernel) ⟨Nat.le_of_ble_eq_true rfl, Nat.le_of_ble_eq_true rfl⟩) hKX hG hN hJ rfl hl.1 rfl (Nat.le_of_ble_eq_true rfl) dL_law_1493 ⟨by rw [hr.1]; omega, by rw [hr.2]; omega⟩) hJ (fun k u H hk hp hJ => ?_)
  obtain ⟨n1, am1, S1, rfl, hk1, hn1, hO⟩ := op_chargeByHours (nM := nM) (amM := amM) hs0 hW hq (xi xs (i + 1)) hp
  clear hp
  have h91 : 0 < n1 9 := Nat.lt_of_lt_of_le h9 (hn1 9)
  replace hl : lv_has ls 9 [(0, .ref b), (1, .ref (am1 0 0)), (2, .ref (amM 0 0)), (3, .ref (am1 9 0)), (4, .ref oD), (5, .int (iZ i))] := by rw [hk1 0 0 hvX, hk1 9 0 h9]; exact hl
  refine lv_istore (lv' := [(6, .int (iZ k)), (0, .ref b), (1, .ref (am1 0 0)), (2, .ref (amM 0 0)), (3, .ref (am1 9 0)), (4, .ref oD), (5, .int (iZ i))]) hx hb dL_law_1496 hl (by decide) rfl (fun ls hl => ?_)
  refine lv_aload_n hx hb dL_law_1498 rfl (lv_at hl 3 rfl) ?_
  refine lv_aload_n hx hb dL_law_1499 rfl (lv_at hl 1 rfl) ?_
  refine lv_iload hx hb dL_law_1500 (lv_at hl 6 rfl) ?_
  refine z_iconst hx hb dL_law_1502 ?_
  refine z_iadd hx hb dL_law_1503 ?_
  refine lj_rd hx hb hX hbl hJ (by omega) (by omega) (by omega) dL_law_1504 ?_
  refine lj_M_i (zrV (As := [.int (iZ (xi xs (i + 1)))]) (rest := []) (κ := 0) (i := 0) ⟨hx, hb, hml, hown, hts⟩ (c_X5_chargeByHours l D cM nM amM M H.size (xi xs (i + 1)) hW (xi_R _ _) hs0.1.mR) (cwV 1 hts gL_law_X5_chargeByHours rfl rfl rfl (by decide +kernel) ⟨Nat.le_of_ble_eq_true rfl, Nat.le_of_ble_eq_true rfl⟩) hKM hJ.IM hv0 rfl rfl rfl hl.1 rfl (Nat.le_of_ble_eq_true rfl) dL_law_1505 ⟨by rw [hr.1]; omega, by rw [hr.2]; omega⟩) hJ (fun z w H hz hp hJ => ?_)
  obtain ⟨M1, rfl, hW1, h24, hz0, hs1⟩ := hO _ _ hp
  clear hp hO
  refine lv_istore (lv' := [(7, .int (iZ z)), (6, .int (iZ k)), (0, .ref b), (1, .ref (am1 0 0)), (2, .ref (amM 0 0)), (3, .ref (am1 9 0)), (4, .ref oD), (5, .int (iZ i))]) hx hb dL_law_1508 hl (by decide) rfl (fun ls hl => ?_)
  refine lv_aload_n hx hb dL_law_1510 rfl (lv_at hl 4 rfl) ?_
  refine lj_M_i (zrV (As := []) (rest := []) (κ := 0) (i := 0) ⟨hx, hb, hml, hown, hts⟩ (c_X5_thrown l D cM nM amM M1 H.size hW1) (cwV 0 hts gL_law_X5_thrown rfl rfl rfl (by decide +kernel) ⟨Nat.le_of_ble_eq_true rfl, Nat.le_of_ble_eq_true rfl⟩) hKM hJ.IM hv0 rfl rfl rfl hl.1 rfl (Nat.le_of_ble_eq_true rfl) dL_law_1511 ⟨by rw [hr.1]; omega, by rw [hr.2]; omega⟩) hJ (fun z2 w H hz2 hp hJ => ?_)
  obtain ⟨rfl, rfl⟩ := hp
  refine lv_iload hx hb dL_law_1514 (lv_at hl 1 rfl) ?_
  refine z_icmp_eq (tgt := 1521) hx hb dL_law_1516 (by decide) hz2 hk (fun _ => ?_) (fun hz9 => absurd h24 hz9)
  refine lv_iload hx hb dL_law_1521 (lv_at hl 1 rfl) ?_
  refine z_if_ne (tgt := 1538) hx hb dL_law_1523 (by decide) hk (fun hk0 => ?_) (fun hk0 => ?_)
  · refine lv_goto (tgt := 1699) hx hb dL_law_1538 (by decide) ?_
    exact W.widen (by omega) (by omega) (kk _ _ ⟨_, _, _, _, _, _, _, hJ, hs1, hW1, h91, lv_sub hl [2, 3, 4, 5, 6, 7] rfl⟩)
  · refine lv_aload_n hx hb dL_law_1526 rfl (lv_at hl 5 rfl) ?_
    refine z_iconst hx hb dL_law_1527 ?_
    refine za_l (κ := 9) (i := 0) hx hb hKX hJ.IX h91 rfl (by decide) (by decide) (by decide) dL_law_1528 (hz0 hk0) ?_
    refine lv_iload hx hb dL_law_1529 (lv_at hl 0 rfl) ?_
    refine z_i2l hx hb dL_law_1531 hz ?_
    refine lj_lcmp hx hb dL_law_1532 ?_
    refine z_if_eq (tgt := 1538) hx hb dL_law_1533 (by decide) (by decide) (fun _ => ?_) (fun hz9 => absurd rfl hz9)
    refine lv_goto (tgt := 1699) hx hb dL_law_1538 (by decide) ?_
    exact W.widen (by omega) (by omega) (kk _ _ ⟨_, _, _, _, _, _, _, hJ, hs1, hW1, h91, lv_sub hl [2, 3, 4, 5, 6, 7] rfl⟩)
set_option maxHeartbeats 4000000 in
set_option maxRecDepth 100000 in
theorem law_moves {p : Program} {e : Env} {s : State} {m : MethodId} {below : List Frame} {meth : Method} {c : Code} {args : Array Value} {cells slots : Nat} {Q : State → Prop} {H : Heap} {ls : Array Slot} {b L : Nat} {xs : Nat → Int32} {D : va_G} {cX cM : Nat → ClassId} {cD : ClassId} {oD : Nat} {i : Int} {q : Nat} (l : Launch) (hfl : l.stackTraces = false) (hE : lEnv p s m c args b L xs D cX cM cD) (hq : q < 600) (hi : 0 ≤ i ∧ i + 5 ≤ (L : Int) ∧ L ≤ 2560) (h : lInv D cX cM cD oD s b i q H ls) (hc : cells + 8 ≤ 762397) (hs : slots + 40 ≤ 6708562) (kk : ∀ (H : Heap) (ls : Array Slot), lInv D cX cM cD oD s b i (q + 1) H ls → W p l e room_1 s m args below meth c H [] (cells + 8) (slots + 40) Q (F0 m 1699 ls [])) : W p l e room_1 s m args below meth c H [] cells slots Q (F0 m 1541 ls []) := by
  obtain ⟨hx, hb, hml, hown, hts, hKX, hKM, hKD, hG, hN, hX, hbl⟩ := hE
  obtain ⟨n, am, S, nM, amM, M, v, hJ, hs0, hW, h9, hl⟩ := h
  have hr : room_1.cells = 762397 ∧ room_1.slots = 6708562 := ⟨rfl, rfl⟩
  have hv0 : 0 < nM 0 := hW.1 0 (by decide)
  have hvX : 0 < n 0 := hs0.1.1.1.1.1
  refine lv_aload_n hx hb dL_law_1541 rfl (lv_at hl 1 rfl) ?_
  refine lj_X_i (zrV (As := []) (rest := []) (κ := 0) (i := 0) ⟨hx, hb, hml, hown, hts⟩ (c_X4_moves l D cX n am S H.size hs0.1.1.1) (cwV 0 hts gL_law_X4_moves rfl rfl rfl (by decide +kernel) ⟨Nat.le_of_ble_eq_true rfl, Nat.le_of_ble_eq_true rfl⟩) hKX hJ.IX hvX rfl rfl rfl hl.1 rfl (Nat.le_of_ble_eq_true rfl) dL_law_1542 ⟨by rw [hr.1]; omega, by rw [hr.2]; omega⟩) hJ (fun z u H hz1 hp hJ => ?_)
  obtain ⟨rfl, rfl⟩ := hp
  refine lv_aload_n hx hb dL_law_1545 rfl (lv_at hl 2 rfl) ?_
  refine lj_M_i (zrV (As := []) (rest := [.int (iZ (S 0 0 11))]) (κ := 0) (i := 0) ⟨hx, hb, hml, hown, hts⟩ (c_X5_moves l D cM nM amM M H.size hW hs0.1.mR) (cwV 0 hts gL_law_X5_moves rfl rfl rfl (by decide +kernel) ⟨Nat.le_of_ble_eq_true rfl, Nat.le_of_ble_eq_true rfl⟩) hKM hJ.IM hv0 rfl rfl rfl hl.1 rfl (Nat.le_of_ble_eq_true rfl) dL_law_1546 ⟨by rw [hr.1]; omega, by rw [hr.2]; omega⟩) hJ (fun z w H hz2 hp hJ => ?_)
  obtain ⟨rfl, rfl⟩ := hp
  refine z_icmp_eq (tgt := 1699) hx hb dL_law_1549 (by decide) hz1 hz2 (fun _ => ?_) (fun hz9 => absurd hs0.m21.2.symm hz9)
  exact W.widen (by omega) (by omega) (kk _ _ ⟨_, _, _, _, _, _, _, hJ, hs0.code 0, hW.put rfl, h9, hl⟩)
set_option maxHeartbeats 4000000 in
set_option maxRecDepth 100000 in
theorem law_charged {p : Program} {e : Env} {s : State} {m : MethodId} {below : List Frame} {meth : Method} {c : Code} {args : Array Value} {cells slots : Nat} {Q : State → Prop} {H : Heap} {ls : Array Slot} {b L : Nat} {xs : Nat → Int32} {D : va_G} {cX cM : Nat → ClassId} {cD : ClassId} {oD : Nat} {i : Int} {q : Nat} (l : Launch) (hfl : l.stackTraces = false) (hE : lEnv p s m c args b L xs D cX cM cD) (hq : q < 600) (hi : 0 ≤ i ∧ i + 5 ≤ (L : Int) ∧ L ≤ 2560) (h : lInv D cX cM cD oD s b i q H ls) (hc : cells + 8 ≤ 762397) (hs : slots + 40 ≤ 6708562) (kk : ∀ (H : Heap) (ls : Array Slot), lInv D cX cM cD oD s b i (q + 1) H ls → W p l e room_1 s m args below meth c H [] (cells + 8) (slots + 40) Q (F0 m 1699 ls [])) : W p l e room_1 s m args below meth c H [] cells slots Q (F0 m 1554 ls []) := by
  obtain ⟨hx, hb, hml, hown, hts, hKX, hKM, hKD, hG, hN, hX, hbl⟩ := hE
  obtain ⟨n, am, S, nM, amM, M, v, hJ, hs0, hW, h9, hl⟩ := h
  have hr : room_1.cells = 762397 ∧ room_1.slots = 6708562 := ⟨rfl, rfl⟩
  have hv0 : 0 < nM 0 := hW.1 0 (by decide)
  have hvX : 0 < n 0 := hs0.1.1.1.1.1
  refine lv_aload_n hx hb dL_law_1554 rfl (lv_at hl 1 rfl) ?_
  refine lj_X_l (zrV (As := []) (rest := []) (κ := 0) (i := 0) ⟨hx, hb, hml, hown, hts⟩ (c_X4_charged l D cX n am S H.size hs0.1.1.1) (cwV 0 hts gL_law_X4_charged rfl rfl rfl (by decide +kernel) ⟨Nat.le_of_ble_eq_true rfl, Nat.le_of_ble_eq_true rfl⟩) hKX hJ.IX hvX rfl rfl rfl hl.1 rfl (Nat.le_of_ble_eq_true rfl) dL_law_1555 ⟨by rw [hr.1]; omega, by rw [hr.2]; omega⟩) hJ (fun z u H hp hJ => ?_)
  obtain ⟨rfl, rfl⟩ := hp
  refine lv_aload_n hx hb dL_law_1558 rfl (lv_at hl 2 rfl) ?_
  refine lj_M_l (zrV (As := []) (rest := [.long (lZ (S 0 0 12))]) (κ := 0) (i := 0) ⟨hx, hb, hml, hown, hts⟩ (c_X5_charged l D cM nM amM M H.size hW hs0.1.mR) (cwV 0 hts gL_law_X5_charged rfl rfl rfl (by decide +kernel) ⟨Nat.le_of_ble_eq_true rfl, Nat.le_of_ble_eq_true rfl⟩) hKM hJ.IM hv0 rfl rfl rfl hl.1 rfl (Nat.le_of_ble_eq_true rfl) dL_law_1559 ⟨by rw [hr.1]; omega, by rw [hr.2]; omega⟩) hJ (fun z w H hp hJ => ?_)
  obtain ⟨rfl, rfl⟩ := hp
  rw [hs0.1.2.1.2.2.2.2.2.2.2.2]
  refine lj_lcmp hx hb dL_law_1562 ?_
  refine z_if_eq (tgt := 1699) hx hb dL_law_1563 (by decide) (by decide) (fun _ => ?_) (fun hz9 => absurd rfl hz9)
  exact W.widen (by omega) (by omega) (kk _ _ ⟨_, _, _, _, _, _, _, hJ, hs0.code 0, hW.put rfl, h9, hl⟩)
