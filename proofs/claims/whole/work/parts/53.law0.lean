/-! The law's cases. -/
theorem lOk {n : Nat → Nat} {C M : ts_St} (h : Sim n C M) : cOk n C := by
  have c := h.1.1.cn.2.2
  have b := h.1.1.lim
  exact ⟨by omega, fun i hi => by have := (h.1.2.2.2.1 i hi).1; omega⟩
theorem lNs {n : Nat → Nat} {C M : ts_St} (h : Sim n C M) : ∀ k : Nat, (k : Int) < M 0 0 8 → M 12 0 k = 98 → M 0 0 21 - M 9 0 k ≤ 24 := fun k h1 h2 => by
  have b : M 0 0 8 = (n 8 : Int) := h.2.1.1.2.2
  have t : M 0 0 21 = C 0 0 10 := h.2.1.2.2.2.2.2.2.1
  have a := h.2.2.2.2.1.1 k (by omega)
  have d := (h.2.2.2.2.2.1 k (by omega)).2.2.2
  have := d (by omega)
  omega
set_option maxHeartbeats 4000000 in
set_option maxRecDepth 100000 in
theorem law_addLane {p : Program} {e : Env} {s : State} {m : MethodId} {below : List Frame} {meth : Method} {c : Code} {args : Array Value} {cells slots : Nat} {Q : State → Prop} {H : Heap} {ls : Array Slot} {b L : Nat} {xs : Nat → Int32} {D : va_G} {cX cM : Nat → ClassId} {cD : ClassId} {oD : Nat} {i : Int} {q : Nat} (l : Launch) (hfl : l.stackTraces = false) (hE : lEnv p s m c args b L xs D cX cM cD) (hq : q < 600) (hi : 0 ≤ i ∧ i + 5 ≤ (L : Int) ∧ L ≤ 2560) (h : lInv D cX cM cD oD s b i q H ls) (hc : cells + 8 ≤ 762397) (hs : slots + 40 ≤ 6708562) (kk : ∀ (H : Heap) (ls : Array Slot), lInv D cX cM cD oD s b i (q + 1) H ls → W p l e room_1 s m args below meth c H [] (cells + 8) (slots + 40) Q (F0 m 1699 ls [])) : W p l e room_1 s m args below meth c H [] cells slots Q (F0 m 168 ls []) := by
  obtain ⟨hx, hb, hml, hown, hts, hKX, hKM, hKD, hG, hN, hX, hbl⟩ := hE
  obtain ⟨n, am, S, nM, amM, M, v, hJ, hs0, hW, h9, hl⟩ := h
  have hr : room_1.cells = 762397 ∧ room_1.slots = 6708562 := ⟨rfl, rfl⟩
  have hv0 : 0 < nM 0 := hW.1 0 (by decide)
  have hvX : 0 < n 0 := hs0.1.1.1.1.1
  refine lv_aload_n hx hb dL_law_168 rfl (lv_at hl 1 rfl) ?_
  refine lv_aload_n hx hb dL_law_169 rfl (lv_at hl 0 rfl) ?_
  refine lv_iload hx hb dL_law_170 (lv_at hl 5 rfl) ?_
  refine z_iconst hx hb dL_law_172 ?_
  refine z_iadd hx hb dL_law_173 ?_
  refine lj_rd hx hb hX hbl hJ (by omega) (by omega) (by omega) dL_law_174 ?_
  refine lv_aload_n hx hb dL_law_175 rfl (lv_at hl 0 rfl) ?_
  refine lv_iload hx hb dL_law_176 (lv_at hl 5 rfl) ?_
  refine z_iconst hx hb dL_law_178 ?_
  refine z_iadd hx hb dL_law_179 ?_
  refine lj_rd hx hb hX hbl hJ (by omega) (by omega) (by omega) dL_law_180 ?_
  refine z_if_eq (tgt := 188) hx hb dL_law_181 (by decide) (xi_R _ _) (fun hz8 => ?_) (fun hz8 => ?_)
  · skip
    refine z_iconst hx hb dL_law_188 ?_
    refine lv_aload_n hx hb dL_law_189 rfl (lv_at hl 3 rfl) ?_
    refine lj_X_i (zHS (As := [.ref (am 0 0), .int (iZ (xi xs (i + 1))), .int (iZ 0), .ref (am 9 0)]) (rest := []) ⟨hx, hb, hml, hown, hts⟩ (c_L_addLane l hfl D cX n am S H.size (xi xs (i + 1)) 0 hs0.1.1.1 hs0.1.1.2.1 (xi_R _ _) (by decide) h9) (vx_cwSW 4 hts gL_law_L_addLane rfl rfl rfl (by decide +kernel) ⟨Nat.le_of_ble_eq_true rfl, Nat.le_of_ble_eq_true rfl⟩) hKX hG hN hJ rfl hl.1 rfl (Nat.le_of_ble_eq_true rfl) dL_law_190 ⟨by rw [hr.1]; omega, by rw [hr.2]; omega⟩) hJ (fun k u H hk hp hJ => ?_)
    obtain ⟨n1, am1, S1, rfl, hk1, hn1, hO⟩ := op_addLane (nM := nM) (amM := amM) hs0 hW hq (xi xs (i + 1)) 0 hp
    clear hp
    have h91 : 0 < n1 9 := Nat.lt_of_lt_of_le h9 (hn1 9)
    replace hl : lv_has ls 9 [(0, .ref b), (1, .ref (am1 0 0)), (2, .ref (amM 0 0)), (3, .ref (am1 9 0)), (4, .ref oD), (5, .int (iZ i))] := by rw [hk1 0 0 hvX, hk1 9 0 h9]; exact hl
    refine lv_istore (lv' := [(6, .int (iZ k)), (0, .ref b), (1, .ref (am1 0 0)), (2, .ref (amM 0 0)), (3, .ref (am1 9 0)), (4, .ref oD), (5, .int (iZ i))]) hx hb dL_law_193 hl (by decide) rfl (fun ls hl => ?_)
    refine lv_aload_n hx hb dL_law_195 rfl (lv_at hl 3 rfl) ?_
    refine lv_aload_n hx hb dL_law_196 rfl (lv_at hl 1 rfl) ?_
    refine lv_iload hx hb dL_law_197 (lv_at hl 6 rfl) ?_
    refine z_iconst hx hb dL_law_199 ?_
    refine z_iadd hx hb dL_law_200 ?_
    refine lj_rd hx hb hX hbl hJ (by omega) (by omega) (by omega) dL_law_201 ?_
    refine lv_aload_n hx hb dL_law_202 rfl (lv_at hl 1 rfl) ?_
    refine lv_iload hx hb dL_law_203 (lv_at hl 6 rfl) ?_
    refine z_iconst hx hb dL_law_205 ?_
    refine z_iadd hx hb dL_law_206 ?_
    refine lj_rd hx hb hX hbl hJ (by omega) (by omega) (by omega) dL_law_207 ?_
    refine z_if_eq (tgt := 215) hx hb dL_law_208 (by decide) (xi_R _ _) (fun _ => ?_) (fun hz9 => absurd hz8 hz9)
    refine z_iconst hx hb dL_law_215 ?_
    refine lj_M_i (zrV (As := [.int (iZ (xi xs (i + 1))), .int (iZ 0)]) (rest := []) (κ := 0) (i := 0) ⟨hx, hb, hml, hown, hts⟩ (c_X5_addLane l D cM nM amM M H.size (xi xs (i + 1)) 0 hW (xi_R _ _) hs0.1.mR (by decide)) (cwV 2 hts gL_law_X5_addLane rfl rfl rfl (by decide +kernel) ⟨Nat.le_of_ble_eq_true rfl, Nat.le_of_ble_eq_true rfl⟩) hKM hJ.IM hv0 rfl rfl rfl hl.1 rfl (Nat.le_of_ble_eq_true rfl) dL_law_216 ⟨by rw [hr.1]; omega, by rw [hr.2]; omega⟩) hJ (fun z w H hz hp hJ => ?_)
    obtain ⟨M1, rfl, hW1, h24, hz0, hs1⟩ := hO _ _ hp
    clear hp hO
    refine lv_istore (lv' := [(7, .int (iZ z)), (6, .int (iZ k)), (0, .ref b), (1, .ref (am1 0 0)), (2, .ref (amM 0 0)), (3, .ref (am1 9 0)), (4, .ref oD), (5, .int (iZ i))]) hx hb dL_law_219 hl (by decide) rfl (fun ls hl => ?_)
    refine lv_aload_n hx hb dL_law_221 rfl (lv_at hl 4 rfl) ?_
    refine lj_M_i (zrV (As := []) (rest := []) (κ := 0) (i := 0) ⟨hx, hb, hml, hown, hts⟩ (c_X5_thrown l D cM nM amM M1 H.size hW1) (cwV 0 hts gL_law_X5_thrown rfl rfl rfl (by decide +kernel) ⟨Nat.le_of_ble_eq_true rfl, Nat.le_of_ble_eq_true rfl⟩) hKM hJ.IM hv0 rfl rfl rfl hl.1 rfl (Nat.le_of_ble_eq_true rfl) dL_law_222 ⟨by rw [hr.1]; omega, by rw [hr.2]; omega⟩) hJ (fun z2 w H hz2 hp hJ => ?_)
    obtain ⟨rfl, rfl⟩ := hp
    refine lv_iload hx hb dL_law_225 (lv_at hl 1 rfl) ?_
    refine z_icmp_eq (tgt := 232) hx hb dL_law_227 (by decide) hz2 hk (fun _ => ?_) (fun hz9 => absurd h24 hz9)
    refine lv_iload hx hb dL_law_232 (lv_at hl 1 rfl) ?_
    refine z_if_ne (tgt := 249) hx hb dL_law_234 (by decide) hk (fun hk0 => ?_) (fun hk0 => ?_)
    · refine lv_goto (tgt := 1699) hx hb dL_law_249 (by decide) ?_
      exact W.widen (by omega) (by omega) (kk _ _ ⟨_, _, _, _, _, _, _, hJ, hs1, hW1, h91, lv_sub hl [2, 3, 4, 5, 6, 7] rfl⟩)
    · refine lv_aload_n hx hb dL_law_237 rfl (lv_at hl 5 rfl) ?_
      refine z_iconst hx hb dL_law_238 ?_
      refine za_l (κ := 9) (i := 0) hx hb hKX hJ.IX h91 rfl (by decide) (by decide) (by decide) dL_law_239 (hz0 hk0) ?_
      refine lv_iload hx hb dL_law_240 (lv_at hl 0 rfl) ?_
      refine z_i2l hx hb dL_law_242 hz ?_
      refine lj_lcmp hx hb dL_law_243 ?_
      refine z_if_eq (tgt := 249) hx hb dL_law_244 (by decide) (by decide) (fun _ => ?_) (fun hz9 => absurd rfl hz9)
      refine lv_goto (tgt := 1699) hx hb dL_law_249 (by decide) ?_
      exact W.widen (by omega) (by omega) (kk _ _ ⟨_, _, _, _, _, _, _, hJ, hs1, hW1, h91, lv_sub hl [2, 3, 4, 5, 6, 7] rfl⟩)
  · skip
    refine z_iconst hx hb dL_law_184 ?_
    refine lv_goto (tgt := 189) hx hb dL_law_185 (by decide) ?_
    refine lv_aload_n hx hb dL_law_189 rfl (lv_at hl 3 rfl) ?_
    refine lj_X_i (zHS (As := [.ref (am 0 0), .int (iZ (xi xs (i + 1))), .int (iZ 1), .ref (am 9 0)]) (rest := []) ⟨hx, hb, hml, hown, hts⟩ (c_L_addLane l hfl D cX n am S H.size (xi xs (i + 1)) 1 hs0.1.1.1 hs0.1.1.2.1 (xi_R _ _) (by decide) h9) (vx_cwSW 4 hts gL_law_L_addLane rfl rfl rfl (by decide +kernel) ⟨Nat.le_of_ble_eq_true rfl, Nat.le_of_ble_eq_true rfl⟩) hKX hG hN hJ rfl hl.1 rfl (Nat.le_of_ble_eq_true rfl) dL_law_190 ⟨by rw [hr.1]; omega, by rw [hr.2]; omega⟩) hJ (fun k u H hk hp hJ => ?_)
    obtain ⟨n1, am1, S1, rfl, hk1, hn1, hO⟩ := op_addLane (nM := nM) (amM := amM) hs0 hW hq (xi xs (i + 1)) 1 hp
    clear hp
    have h91 : 0 < n1 9 := Nat.lt_of_lt_of_le h9 (hn1 9)
    replace hl : lv_has ls 9 [(0, .ref b), (1, .ref (am1 0 0)), (2, .ref (amM 0 0)), (3, .ref (am1 9 0)), (4, .ref oD), (5, .int (iZ i))] := by rw [hk1 0 0 hvX, hk1 9 0 h9]; exact hl
    refine lv_istore (lv' := [(6, .int (iZ k)), (0, .ref b), (1, .ref (am1 0 0)), (2, .ref (amM 0 0)), (3, .ref (am1 9 0)), (4, .ref oD), (5, .int (iZ i))]) hx hb dL_law_193 hl (by decide) rfl (fun ls hl => ?_)
    refine lv_aload_n hx hb dL_law_195 rfl (lv_at hl 3 rfl) ?_
    refine lv_aload_n hx hb dL_law_196 rfl (lv_at hl 1 rfl) ?_
    refine lv_iload hx hb dL_law_197 (lv_at hl 6 rfl) ?_
    refine z_iconst hx hb dL_law_199 ?_
    refine z_iadd hx hb dL_law_200 ?_
    refine lj_rd hx hb hX hbl hJ (by omega) (by omega) (by omega) dL_law_201 ?_
    refine lv_aload_n hx hb dL_law_202 rfl (lv_at hl 1 rfl) ?_
    refine lv_iload hx hb dL_law_203 (lv_at hl 6 rfl) ?_
    refine z_iconst hx hb dL_law_205 ?_
    refine z_iadd hx hb dL_law_206 ?_
    refine lj_rd hx hb hX hbl hJ (by omega) (by omega) (by omega) dL_law_207 ?_
    refine z_if_eq (tgt := 215) hx hb dL_law_208 (by decide) (xi_R _ _) (fun hz9 => absurd hz9 hz8) (fun _ => ?_)
    refine z_iconst hx hb dL_law_211 ?_
    refine lv_goto (tgt := 216) hx hb dL_law_212 (by decide) ?_
    refine lj_M_i (zrV (As := [.int (iZ (xi xs (i + 1))), .int (iZ 1)]) (rest := []) (κ := 0) (i := 0) ⟨hx, hb, hml, hown, hts⟩ (c_X5_addLane l D cM nM amM M H.size (xi xs (i + 1)) 1 hW (xi_R _ _) hs0.1.mR (by decide)) (cwV 2 hts gL_law_X5_addLane rfl rfl rfl (by decide +kernel) ⟨Nat.le_of_ble_eq_true rfl, Nat.le_of_ble_eq_true rfl⟩) hKM hJ.IM hv0 rfl rfl rfl hl.1 rfl (Nat.le_of_ble_eq_true rfl) dL_law_216 ⟨by rw [hr.1]; omega, by rw [hr.2]; omega⟩) hJ (fun z w H hz hp hJ => ?_)
    obtain ⟨M1, rfl, hW1, h24, hz0, hs1⟩ := hO _ _ hp
    clear hp hO
    refine lv_istore (lv' := [(7, .int (iZ z)), (6, .int (iZ k)), (0, .ref b), (1, .ref (am1 0 0)), (2, .ref (amM 0 0)), (3, .ref (am1 9 0)), (4, .ref oD), (5, .int (iZ i))]) hx hb dL_law_219 hl (by decide) rfl (fun ls hl => ?_)
    refine lv_aload_n hx hb dL_law_221 rfl (lv_at hl 4 rfl) ?_
    refine lj_M_i (zrV (As := []) (rest := []) (κ := 0) (i := 0) ⟨hx, hb, hml, hown, hts⟩ (c_X5_thrown l D cM nM amM M1 H.size hW1) (cwV 0 hts gL_law_X5_thrown rfl rfl rfl (by decide +kernel) ⟨Nat.le_of_ble_eq_true rfl, Nat.le_of_ble_eq_true rfl⟩) hKM hJ.IM hv0 rfl rfl rfl hl.1 rfl (Nat.le_of_ble_eq_true rfl) dL_law_222 ⟨by rw [hr.1]; omega, by rw [hr.2]; omega⟩) hJ (fun z2 w H hz2 hp hJ => ?_)
    obtain ⟨rfl, rfl⟩ := hp
    refine lv_iload hx hb dL_law_225 (lv_at hl 1 rfl) ?_
    refine z_icmp_eq (tgt := 232) hx hb dL_law_227 (by decide) hz2 hk (fun _ => ?_) (fun hz9 => absurd h24 hz9)
    refine lv_iload hx hb dL_law_232 (lv_at hl 1 rfl) ?_
    refine z_if_ne (tgt := 249) hx hb dL_law_234 (by decide) hk (fun hk0 => ?_) (fun hk0 => ?_)
    · refine lv_goto (tgt := 1699) hx hb dL_law_249 (by decide) ?_
      exact W.widen (by omega) (by omega) (kk _ _ ⟨_, _, _, _, _, _, _, hJ, hs1, hW1, h91, lv_sub hl [2, 3, 4, 5, 6, 7] rfl⟩)
    · refine lv_aload_n hx hb dL_law_237 rfl (lv_at hl 5 rfl) ?_
      refine z_iconst hx hb dL_law_238 ?_
      refine za_l (κ := 9) (i := 0) hx hb hKX hJ.IX h91 rfl (by decide) (by decide) (by decide) dL_law_239 (hz0 hk0) ?_
      refine lv_iload hx hb dL_law_240 (lv_at hl 0 rfl) ?_
      refine z_i2l hx hb dL_law_242 hz ?_
      refine lj_lcmp hx hb dL_law_243 ?_
      refine z_if_eq (tgt := 249) hx hb dL_law_244 (by decide) (by decide) (fun _ => ?_) (fun hz9 => absurd rfl hz9)
      refine lv_goto (tgt := 1699) hx hb dL_law_249 (by decide) ?_
      exact W.widen (by omega) (by omega) (kk _ _ ⟨_, _, _, _, _, _, _, hJ, hs1, hW1, h91, lv_sub hl [2, 3, 4, 5, 6, 7] rfl⟩)
set_option maxHeartbeats 4000000 in
set_option maxRecDepth 100000 in
theorem law_addDoor {p : Program} {e : Env} {s : State} {m : MethodId} {below : List Frame} {meth : Method} {c : Code} {args : Array Value} {cells slots : Nat} {Q : State → Prop} {H : Heap} {ls : Array Slot} {b L : Nat} {xs : Nat → Int32} {D : va_G} {cX cM : Nat → ClassId} {cD : ClassId} {oD : Nat} {i : Int} {q : Nat} (l : Launch) (hfl : l.stackTraces = false) (hE : lEnv p s m c args b L xs D cX cM cD) (hq : q < 600) (hi : 0 ≤ i ∧ i + 5 ≤ (L : Int) ∧ L ≤ 2560) (h : lInv D cX cM cD oD s b i q H ls) (hc : cells + 8 ≤ 762397) (hs : slots + 40 ≤ 6708562) (kk : ∀ (H : Heap) (ls : Array Slot), lInv D cX cM cD oD s b i (q + 1) H ls → W p l e room_1 s m args below meth c H [] (cells + 8) (slots + 40) Q (F0 m 1699 ls [])) : W p l e room_1 s m args below meth c H [] cells slots Q (F0 m 252 ls []) := by
  obtain ⟨hx, hb, hml, hown, hts, hKX, hKM, hKD, hG, hN, hX, hbl⟩ := hE
  obtain ⟨n, am, S, nM, amM, M, v, hJ, hs0, hW, h9, hl⟩ := h
  have hr : room_1.cells = 762397 ∧ room_1.slots = 6708562 := ⟨rfl, rfl⟩
  have hv0 : 0 < nM 0 := hW.1 0 (by decide)
  have hvX : 0 < n 0 := hs0.1.1.1.1.1
  refine lv_aload_n hx hb dL_law_252 rfl (lv_at hl 1 rfl) ?_
  refine lv_aload_n hx hb dL_law_253 rfl (lv_at hl 0 rfl) ?_
  refine lv_iload hx hb dL_law_254 (lv_at hl 5 rfl) ?_
  refine z_iconst hx hb dL_law_256 ?_
  refine z_iadd hx hb dL_law_257 ?_
  refine lj_rd hx hb hX hbl hJ (by omega) (by omega) (by omega) dL_law_258 ?_
  refine lj_i2c hx hb dL_law_259 ?_
  refine lv_aload_n hx hb dL_law_260 rfl (lv_at hl 3 rfl) ?_
  refine lj_X_i (zHS (As := [.ref (am 0 0), .int (iZ (xc xs (i + 1))), .ref (am 9 0)]) (rest := []) ⟨hx, hb, hml, hown, hts⟩ (c_L_addDoor l hfl D cX n am S H.size (xc xs (i + 1)) hs0.1.1.1 (xc_R _ _) h9) (vx_cwSW 3 hts gL_law_L_addDoor rfl rfl rfl (by decide +kernel) ⟨Nat.le_of_ble_eq_true rfl, Nat.le_of_ble_eq_true rfl⟩) hKX hG hN hJ rfl hl.1 rfl (Nat.le_of_ble_eq_true rfl) dL_law_261 ⟨by rw [hr.1]; omega, by rw [hr.2]; omega⟩) hJ (fun k u H hk hp hJ => ?_)
  obtain ⟨n1, am1, S1, rfl, hk1, hn1, hO⟩ := op_addDoor (nM := nM) (amM := amM) hs0 hW hq (xc xs (i + 1)) hp
  clear hp
  have h91 : 0 < n1 9 := Nat.lt_of_lt_of_le h9 (hn1 9)
  replace hl : lv_has ls 9 [(0, .ref b), (1, .ref (am1 0 0)), (2, .ref (amM 0 0)), (3, .ref (am1 9 0)), (4, .ref oD), (5, .int (iZ i))] := by rw [hk1 0 0 hvX, hk1 9 0 h9]; exact hl
  refine lv_istore (lv' := [(6, .int (iZ k)), (0, .ref b), (1, .ref (am1 0 0)), (2, .ref (amM 0 0)), (3, .ref (am1 9 0)), (4, .ref oD), (5, .int (iZ i))]) hx hb dL_law_264 hl (by decide) rfl (fun ls hl => ?_)
  refine lv_aload_n hx hb dL_law_266 rfl (lv_at hl 3 rfl) ?_
  refine lv_aload_n hx hb dL_law_267 rfl (lv_at hl 1 rfl) ?_
  refine lv_iload hx hb dL_law_268 (lv_at hl 6 rfl) ?_
  refine z_iconst hx hb dL_law_270 ?_
  refine z_iadd hx hb dL_law_271 ?_
  refine lj_rd hx hb hX hbl hJ (by omega) (by omega) (by omega) dL_law_272 ?_
  refine lj_i2c hx hb dL_law_273 ?_
  refine lj_M_i (zrV (As := [.int (iZ (xc xs (i + 1)))]) (rest := []) (κ := 0) (i := 0) ⟨hx, hb, hml, hown, hts⟩ (c_X5_addDoor l D cM nM amM M H.size (xc xs (i + 1)) hW (xc_R _ _) hs0.1.mR) (cwV 1 hts gL_law_X5_addDoor rfl rfl rfl (by decide +kernel) ⟨Nat.le_of_ble_eq_true rfl, Nat.le_of_ble_eq_true rfl⟩) hKM hJ.IM hv0 rfl rfl rfl hl.1 rfl (Nat.le_of_ble_eq_true rfl) dL_law_274 ⟨by rw [hr.1]; omega, by rw [hr.2]; omega⟩) hJ (fun z w H hz hp hJ => ?_)
  obtain ⟨M1, rfl, hW1, h24, hz0, hs1⟩ := hO _ _ hp
  clear hp hO
  refine lv_istore (lv' := [(7, .int (iZ z)), (6, .int (iZ k)), (0, .ref b), (1, .ref (am1 0 0)), (2, .ref (amM 0 0)), (3, .ref (am1 9 0)), (4, .ref oD), (5, .int (iZ i))]) hx hb dL_law_277 hl (by decide) rfl (fun ls hl => ?_)
  refine lv_aload_n hx hb dL_law_279 rfl (lv_at hl 4 rfl) ?_
  refine lj_M_i (zrV (As := []) (rest := []) (κ := 0) (i := 0) ⟨hx, hb, hml, hown, hts⟩ (c_X5_thrown l D cM nM amM M1 H.size hW1) (cwV 0 hts gL_law_X5_thrown rfl rfl rfl (by decide +kernel) ⟨Nat.le_of_ble_eq_true rfl, Nat.le_of_ble_eq_true rfl⟩) hKM hJ.IM hv0 rfl rfl rfl hl.1 rfl (Nat.le_of_ble_eq_true rfl) dL_law_280 ⟨by rw [hr.1]; omega, by rw [hr.2]; omega⟩) hJ (fun z2 w H hz2 hp hJ => ?_)
  obtain ⟨rfl, rfl⟩ := hp
  refine lv_iload hx hb dL_law_283 (lv_at hl 1 rfl) ?_
  refine z_icmp_eq (tgt := 290) hx hb dL_law_285 (by decide) hz2 hk (fun _ => ?_) (fun hz9 => absurd h24 hz9)
  refine lv_iload hx hb dL_law_290 (lv_at hl 1 rfl) ?_
  refine z_if_ne (tgt := 307) hx hb dL_law_292 (by decide) hk (fun hk0 => ?_) (fun hk0 => ?_)
  · refine lv_goto (tgt := 1699) hx hb dL_law_307 (by decide) ?_
    exact W.widen (by omega) (by omega) (kk _ _ ⟨_, _, _, _, _, _, _, hJ, hs1, hW1, h91, lv_sub hl [2, 3, 4, 5, 6, 7] rfl⟩)
  · refine lv_aload_n hx hb dL_law_295 rfl (lv_at hl 5 rfl) ?_
    refine z_iconst hx hb dL_law_296 ?_
    refine za_l (κ := 9) (i := 0) hx hb hKX hJ.IX h91 rfl (by decide) (by decide) (by decide) dL_law_297 (hz0 hk0) ?_
    refine lv_iload hx hb dL_law_298 (lv_at hl 0 rfl) ?_
    refine z_i2l hx hb dL_law_300 hz ?_
    refine lj_lcmp hx hb dL_law_301 ?_
    refine z_if_eq (tgt := 307) hx hb dL_law_302 (by decide) (by decide) (fun _ => ?_) (fun hz9 => absurd rfl hz9)
    refine lv_goto (tgt := 1699) hx hb dL_law_307 (by decide) ?_
    exact W.widen (by omega) (by omega) (kk _ _ ⟨_, _, _, _, _, _, _, hJ, hs1, hW1, h91, lv_sub hl [2, 3, 4, 5, 6, 7] rfl⟩)
set_option maxHeartbeats 4000000 in
set_option maxRecDepth 100000 in
theorem law_setTolerance {p : Program} {e : Env} {s : State} {m : MethodId} {below : List Frame} {meth : Method} {c : Code} {args : Array Value} {cells slots : Nat} {Q : State → Prop} {H : Heap} {ls : Array Slot} {b L : Nat} {xs : Nat → Int32} {D : va_G} {cX cM : Nat → ClassId} {cD : ClassId} {oD : Nat} {i : Int} {q : Nat} (l : Launch) (hfl : l.stackTraces = false) (hE : lEnv p s m c args b L xs D cX cM cD) (hq : q < 600) (hi : 0 ≤ i ∧ i + 5 ≤ (L : Int) ∧ L ≤ 2560) (h : lInv D cX cM cD oD s b i q H ls) (hc : cells + 8 ≤ 762397) (hs : slots + 40 ≤ 6708562) (kk : ∀ (H : Heap) (ls : Array Slot), lInv D cX cM cD oD s b i (q + 1) H ls → W p l e room_1 s m args below meth c H [] (cells + 8) (slots + 40) Q (F0 m 1699 ls [])) : W p l e room_1 s m args below meth c H [] cells slots Q (F0 m 310 ls []) := by
  obtain ⟨hx, hb, hml, hown, hts, hKX, hKM, hKD, hG, hN, hX, hbl⟩ := hE
  obtain ⟨n, am, S, nM, amM, M, v, hJ, hs0, hW, h9, hl⟩ := h
  have hr : room_1.cells = 762397 ∧ room_1.slots = 6708562 := ⟨rfl, rfl⟩
  have hv0 : 0 < nM 0 := hW.1 0 (by decide)
  have hvX : 0 < n 0 := hs0.1.1.1.1.1
  refine lv_aload_n hx hb dL_law_310 rfl (lv_at hl 1 rfl) ?_
  refine lv_aload_n hx hb dL_law_311 rfl (lv_at hl 0 rfl) ?_
  refine lv_iload hx hb dL_law_312 (lv_at hl 5 rfl) ?_
  refine z_iconst hx hb dL_law_314 ?_
  refine z_iadd hx hb dL_law_315 ?_
  refine lj_rd hx hb hX hbl hJ (by omega) (by omega) (by omega) dL_law_316 ?_
  refine lv_aload_n hx hb dL_law_317 rfl (lv_at hl 3 rfl) ?_
  refine lj_X_i (zHS (As := [.ref (am 0 0), .int (iZ (xi xs (i + 1))), .ref (am 9 0)]) (rest := []) ⟨hx, hb, hml, hown, hts⟩ (c_L_setTolerance l hfl D cX n am S H.size (xi xs (i + 1)) hs0.1.1.1 (xi_R _ _) h9) (vx_cwSW 3 hts gL_law_L_setTolerance rfl rfl rfl (by decide +kernel) ⟨Nat.le_of_ble_eq_true rfl, Nat.le_of_ble_eq_true rfl⟩) hKX hG hN hJ rfl hl.1 rfl (Nat.le_of_ble_eq_true rfl) dL_law_318 ⟨by rw [hr.1]; omega, by rw [hr.2]; omega⟩) hJ (fun k u H hk hp hJ => ?_)
  obtain ⟨n1, am1, S1, rfl, hk1, hn1, hO⟩ := op_setTolerance (nM := nM) (amM := amM) hs0 hW hq (xi xs (i + 1)) hp
  clear hp
  have h91 : 0 < n1 9 := Nat.lt_of_lt_of_le h9 (hn1 9)
  replace hl : lv_has ls 9 [(0, .ref b), (1, .ref (am1 0 0)), (2, .ref (amM 0 0)), (3, .ref (am1 9 0)), (4, .ref oD), (5, .int (iZ i))] := by rw [hk1 0 0 hvX, hk1 9 0 h9]; exact hl
  refine lv_istore (lv' := [(6, .int (iZ k)), (0, .ref b), (1, .ref (am1 0 0)), (2, .ref (amM 0 0)), (3, .ref (am1 9 0)), (4, .ref oD), (5, .int (iZ i))]) hx hb dL_law_321 hl (by decide) rfl (fun ls hl => ?_)
  refine lv_aload_n hx hb dL_law_323 rfl (lv_at hl 3 rfl) ?_
  refine lv_aload_n hx hb dL_law_324 rfl (lv_at hl 1 rfl) ?_
  refine lv_iload hx hb dL_law_325 (lv_at hl 6 rfl) ?_
  refine z_iconst hx hb dL_law_327 ?_
  refine z_iadd hx hb dL_law_328 ?_
  refine lj_rd hx hb hX hbl hJ (by omega) (by omega) (by omega) dL_law_329 ?_
  refine lj_M_i (zrV (As := [.int (iZ (xi xs (i + 1)))]) (rest := []) (κ := 0) (i := 0) ⟨hx, hb, hml, hown, hts⟩ (c_X5_setTolerance l D cM nM amM M H.size (xi xs (i + 1)) hW (xi_R _ _) hs0.1.mR) (cwV 1 hts gL_law_X5_setTolerance rfl rfl rfl (by decide +kernel) ⟨Nat.le_of_ble_eq_true rfl, Nat.le_of_ble_eq_true rfl⟩) hKM hJ.IM hv0 rfl rfl rfl hl.1 rfl (Nat.le_of_ble_eq_true rfl) dL_law_330 ⟨by rw [hr.1]; omega, by rw [hr.2]; omega⟩) hJ (fun z w H hz hp hJ => ?_)
  obtain ⟨M1, rfl, hW1, h24, hz0, hs1⟩ := hO _ _ hp
  clear hp hO
  refine lv_istore (lv' := [(7, .int (iZ z)), (6, .int (iZ k)), (0, .ref b), (1, .ref (am1 0 0)), (2, .ref (amM 0 0)), (3, .ref (am1 9 0)), (4, .ref oD), (5, .int (iZ i))]) hx hb dL_law_333 hl (by decide) rfl (fun ls hl => ?_)
  refine lv_aload_n hx hb dL_law_335 rfl (lv_at hl 4 rfl) ?_
  refine lj_M_i (zrV (As := []) (rest := []) (κ := 0) (i := 0) ⟨hx, hb, hml, hown, hts⟩ (c_X5_thrown l D cM nM amM M1 H.size hW1) (cwV 0 hts gL_law_X5_thrown rfl rfl rfl (by decide +kernel) ⟨Nat.le_of_ble_eq_true rfl, Nat.le_of_ble_eq_true rfl⟩) hKM hJ.IM hv0 rfl rfl rfl hl.1 rfl (Nat.le_of_ble_eq_true rfl) dL_law_336 ⟨by rw [hr.1]; omega, by rw [hr.2]; omega⟩) hJ (fun z2 w H hz2 hp hJ => ?_)
  obtain ⟨rfl, rfl⟩ := hp
  refine lv_iload hx hb dL_law_339 (lv_at hl 1 rfl) ?_
  refine z_icmp_eq (tgt := 346) hx hb dL_law_341 (by decide) hz2 hk (fun _ => ?_) (fun hz9 => absurd h24 hz9)
  refine lv_iload hx hb dL_law_346 (lv_at hl 1 rfl) ?_
  refine z_if_ne (tgt := 363) hx hb dL_law_348 (by decide) hk (fun hk0 => ?_) (fun hk0 => ?_)
  · refine lv_goto (tgt := 1699) hx hb dL_law_363 (by decide) ?_
    exact W.widen (by omega) (by omega) (kk _ _ ⟨_, _, _, _, _, _, _, hJ, hs1, hW1, h91, lv_sub hl [2, 3, 4, 5, 6, 7] rfl⟩)
  · refine lv_aload_n hx hb dL_law_351 rfl (lv_at hl 5 rfl) ?_
    refine z_iconst hx hb dL_law_352 ?_
    refine za_l (κ := 9) (i := 0) hx hb hKX hJ.IX h91 rfl (by decide) (by decide) (by decide) dL_law_353 (hz0 hk0) ?_
    refine lv_iload hx hb dL_law_354 (lv_at hl 0 rfl) ?_
    refine z_i2l hx hb dL_law_356 hz ?_
    refine lj_lcmp hx hb dL_law_357 ?_
    refine z_if_eq (tgt := 363) hx hb dL_law_358 (by decide) (by decide) (fun _ => ?_) (fun hz9 => absurd rfl hz9)
    refine lv_goto (tgt := 1699) hx hb dL_law_363 (by decide) ?_
    exact W.widen (by omega) (by omega) (kk _ _ ⟨_, _, _, _, _, _, _, hJ, hs1, hW1, h91, lv_sub hl [2, 3, 4, 5, 6, 7] rfl⟩)
set_option maxHeartbeats 4000000 in
set_option maxRecDepth 100000 in
theorem law_setCharges {p : Program} {e : Env} {s : State} {m : MethodId} {below : List Frame} {meth : Method} {c : Code} {args : Array Value} {cells slots : Nat} {Q : State → Prop} {H : Heap} {ls : Array Slot} {b L : Nat} {xs : Nat → Int32} {D : va_G} {cX cM : Nat → ClassId} {cD : ClassId} {oD : Nat} {i : Int} {q : Nat} (l : Launch) (hfl : l.stackTraces = false) (hE : lEnv p s m c args b L xs D cX cM cD) (hq : q < 600) (hi : 0 ≤ i ∧ i + 5 ≤ (L : Int) ∧ L ≤ 2560) (h : lInv D cX cM cD oD s b i q H ls) (hc : cells + 8 ≤ 762397) (hs : slots + 40 ≤ 6708562) (kk : ∀ (H : Heap) (ls : Array Slot), lInv D cX cM cD oD s b i (q + 1) H ls → W p l e room_1 s m args below meth c H [] (cells + 8) (slots + 40) Q (F0 m 1699 ls [])) : W p l e room_1 s m args below meth c H [] cells slots Q (F0 m 366 ls []) := by
  obtain ⟨hx, hb, hml, hown, hts, hKX, hKM, hKD, hG, hN, hX, hbl⟩ := hE
  obtain ⟨n, am, S, nM, amM, M, v, hJ, hs0, hW, h9, hl⟩ := h
  have hr : room_1.cells = 762397 ∧ room_1.slots = 6708562 := ⟨rfl, rfl⟩
  have hv0 : 0 < nM 0 := hW.1 0 (by decide)
  have hvX : 0 < n 0 := hs0.1.1.1.1.1
  refine lv_aload_n hx hb dL_law_366 rfl (lv_at hl 1 rfl) ?_
  refine lv_aload_n hx hb dL_law_367 rfl (lv_at hl 0 rfl) ?_
  refine lv_iload hx hb dL_law_368 (lv_at hl 5 rfl) ?_
  refine z_iconst hx hb dL_law_370 ?_
  refine z_iadd hx hb dL_law_371 ?_
  refine lj_rd hx hb hX hbl hJ (by omega) (by omega) (by omega) dL_law_372 ?_
  refine lv_aload_n hx hb dL_law_373 rfl (lv_at hl 0 rfl) ?_
  refine lv_iload hx hb dL_law_374 (lv_at hl 5 rfl) ?_
  refine z_iconst hx hb dL_law_376 ?_
  refine z_iadd hx hb dL_law_377 ?_
  refine lj_rd hx hb hX hbl hJ (by omega) (by omega) (by omega) dL_law_378 ?_
  refine lv_aload_n hx hb dL_law_379 rfl (lv_at hl 0 rfl) ?_
  refine lv_iload hx hb dL_law_380 (lv_at hl 5 rfl) ?_
  refine z_iconst hx hb dL_law_382 ?_
  refine z_iadd hx hb dL_law_383 ?_
  refine lj_rd hx hb hX hbl hJ (by omega) (by omega) (by omega) dL_law_384 ?_
  refine lv_aload_n hx hb dL_law_385 rfl (lv_at hl 0 rfl) ?_
  refine lv_iload hx hb dL_law_386 (lv_at hl 5 rfl) ?_
  refine z_iconst hx hb dL_law_388 ?_
  refine z_iadd hx hb dL_law_389 ?_
  refine lj_rd hx hb hX hbl hJ (by omega) (by omega) (by omega) dL_law_390 ?_
  refine lv_aload_n hx hb dL_law_391 rfl (lv_at hl 3 rfl) ?_
  refine lj_X_i (zHS (As := [.ref (am 0 0), .int (iZ (xi xs (i + 1))), .int (iZ (xi xs (i + 2))), .int (iZ (xi xs (i + 3))), .int (iZ (xi xs (i + 4))), .ref (am 9 0)]) (rest := []) ⟨hx, hb, hml, hown, hts⟩ (c_L_setCharges l hfl D cX n am S H.size (xi xs (i + 1)) (xi xs (i + 2)) (xi xs (i + 3)) (xi xs (i + 4)) hs0.1.1.1 (xi_R _ _) (xi_R _ _) (xi_R _ _) (xi_R _ _) h9) (vx_cwSW 6 hts gL_law_L_setCharges rfl rfl rfl (by decide +kernel) ⟨Nat.le_of_ble_eq_true rfl, Nat.le_of_ble_eq_true rfl⟩) hKX hG hN hJ rfl hl.1 rfl (Nat.le_of_ble_eq_true rfl) dL_law_392 ⟨by rw [hr.1]; omega, by rw [hr.2]; omega⟩) hJ (fun k u H hk hp hJ => ?_)
  obtain ⟨n1, am1, S1, rfl, hk1, hn1, hO⟩ := op_setCharges (nM := nM) (amM := amM) hs0 hW hq (xi xs (i + 1)) (xi xs (i + 2)) (xi xs (i + 3)) (xi xs (i + 4)) hp
  clear hp
  have h91 : 0 < n1 9 := Nat.lt_of_lt_of_le h9 (hn1 9)
  replace hl : lv_has ls 9 [(0, .ref b), (1, .ref (am1 0 0)), (2, .ref (amM 0 0)), (3, .ref (am1 9 0)), (4, .ref oD), (5, .int (iZ i))] := by rw [hk1 0 0 hvX, hk1 9 0 h9]; exact hl
  refine lv_istore (lv' := [(6, .int (iZ k)), (0, .ref b), (1, .ref (am1 0 0)), (2, .ref (amM 0 0)), (3, .ref (am1 9 0)), (4, .ref oD), (5, .int (iZ i))]) hx hb dL_law_395 hl (by decide) rfl (fun ls hl => ?_)
  refine lv_aload_n hx hb dL_law_397 rfl (lv_at hl 3 rfl) ?_
  refine lv_aload_n hx hb dL_law_398 rfl (lv_at hl 1 rfl) ?_
  refine lv_iload hx hb dL_law_399 (lv_at hl 6 rfl) ?_
  refine z_iconst hx hb dL_law_401 ?_
  refine z_iadd hx hb dL_law_402 ?_
  refine lj_rd hx hb hX hbl hJ (by omega) (by omega) (by omega) dL_law_403 ?_
  refine lv_aload_n hx hb dL_law_404 rfl (lv_at hl 1 rfl) ?_
  refine lv_iload hx hb dL_law_405 (lv_at hl 6 rfl) ?_
  refine z_iconst hx hb dL_law_407 ?_
  refine z_iadd hx hb dL_law_408 ?_
  refine lj_rd hx hb hX hbl hJ (by omega) (by omega) (by omega) dL_law_409 ?_
  refine lv_aload_n hx hb dL_law_410 rfl (lv_at hl 1 rfl) ?_
  refine lv_iload hx hb dL_law_411 (lv_at hl 6 rfl) ?_
  refine z_iconst hx hb dL_law_413 ?_
  refine z_iadd hx hb dL_law_414 ?_
  refine lj_rd hx hb hX hbl hJ (by omega) (by omega) (by omega) dL_law_415 ?_
  refine lv_aload_n hx hb dL_law_416 rfl (lv_at hl 1 rfl) ?_
  refine lv_iload hx hb dL_law_417 (lv_at hl 6 rfl) ?_
  refine z_iconst hx hb dL_law_419 ?_
  refine z_iadd hx hb dL_law_420 ?_
  refine lj_rd hx hb hX hbl hJ (by omega) (by omega) (by omega) dL_law_421 ?_
  refine lj_M_i (zrV (As := [.int (iZ (xi xs (i + 1))), .int (iZ (xi xs (i + 2))), .int (iZ (xi xs (i + 3))), .int (iZ (xi xs (i + 4)))]) (rest := []) (κ := 0) (i := 0) ⟨hx, hb, hml, hown, hts⟩ (c_X5_setCharges l D cM nM amM M H.size (xi xs (i + 1)) (xi xs (i + 2)) (xi xs (i + 3)) (xi xs (i + 4)) hW (xi_R _ _) (xi_R _ _) (xi_R _ _) (xi_R _ _) hs0.1.mR) (cwV 4 hts gL_law_X5_setCharges rfl rfl rfl (by decide +kernel) ⟨Nat.le_of_ble_eq_true rfl, Nat.le_of_ble_eq_true rfl⟩) hKM hJ.IM hv0 rfl rfl rfl hl.1 rfl (Nat.le_of_ble_eq_true rfl) dL_law_422 ⟨by rw [hr.1]; omega, by rw [hr.2]; omega⟩) hJ (fun z w H hz hp hJ => ?_)
  obtain ⟨M1, rfl, hW1, h24, hz0, hs1⟩ := hO _ _ hp
  clear hp hO
  refine lv_istore (lv' := [(7, .int (iZ z)), (6, .int (iZ k)), (0, .ref b), (1, .ref (am1 0 0)), (2, .ref (amM 0 0)), (3, .ref (am1 9 0)), (4, .ref oD), (5, .int (iZ i))]) hx hb dL_law_425 hl (by decide) rfl (fun ls hl => ?_)
  refine lv_aload_n hx hb dL_law_427 rfl (lv_at hl 4 rfl) ?_
  refine lj_M_i (zrV (As := []) (rest := []) (κ := 0) (i := 0) ⟨hx, hb, hml, hown, hts⟩ (c_X5_thrown l D cM nM amM M1 H.size hW1) (cwV 0 hts gL_law_X5_thrown rfl rfl rfl (by decide +kernel) ⟨Nat.le_of_ble_eq_true rfl, Nat.le_of_ble_eq_true rfl⟩) hKM hJ.IM hv0 rfl rfl rfl hl.1 rfl (Nat.le_of_ble_eq_true rfl) dL_law_428 ⟨by rw [hr.1]; omega, by rw [hr.2]; omega⟩) hJ (fun z2 w H hz2 hp hJ => ?_)
  obtain ⟨rfl, rfl⟩ := hp
  refine lv_iload hx hb dL_law_431 (lv_at hl 1 rfl) ?_
  refine z_icmp_eq (tgt := 438) hx hb dL_law_433 (by decide) hz2 hk (fun _ => ?_) (fun hz9 => absurd h24 hz9)
  refine lv_iload hx hb dL_law_438 (lv_at hl 1 rfl) ?_
  refine z_if_ne (tgt := 455) hx hb dL_law_440 (by decide) hk (fun hk0 => ?_) (fun hk0 => ?_)
  · refine lv_goto (tgt := 1699) hx hb dL_law_455 (by decide) ?_
    exact W.widen (by omega) (by omega) (kk _ _ ⟨_, _, _, _, _, _, _, hJ, hs1, hW1, h91, lv_sub hl [2, 3, 4, 5, 6, 7] rfl⟩)
  · refine lv_aload_n hx hb dL_law_443 rfl (lv_at hl 5 rfl) ?_
    refine z_iconst hx hb dL_law_444 ?_
    refine za_l (κ := 9) (i := 0) hx hb hKX hJ.IX h91 rfl (by decide) (by decide) (by decide) dL_law_445 (hz0 hk0) ?_
    refine lv_iload hx hb dL_law_446 (lv_at hl 0 rfl) ?_
    refine z_i2l hx hb dL_law_448 hz ?_
    refine lj_lcmp hx hb dL_law_449 ?_
    refine z_if_eq (tgt := 455) hx hb dL_law_450 (by decide) (by decide) (fun _ => ?_) (fun hz9 => absurd rfl hz9)
    refine lv_goto (tgt := 1699) hx hb dL_law_455 (by decide) ?_
    exact W.widen (by omega) (by omega) (kk _ _ ⟨_, _, _, _, _, _, _, hJ, hs1, hW1, h91, lv_sub hl [2, 3, 4, 5, 6, 7] rfl⟩)
set_option maxHeartbeats 4000000 in
set_option maxRecDepth 100000 in
theorem law_book {p : Program} {e : Env} {s : State} {m : MethodId} {below : List Frame} {meth : Method} {c : Code} {args : Array Value} {cells slots : Nat} {Q : State → Prop} {H : Heap} {ls : Array Slot} {b L : Nat} {xs : Nat → Int32} {D : va_G} {cX cM : Nat → ClassId} {cD : ClassId} {oD : Nat} {i : Int} {q : Nat} (l : Launch) (hfl : l.stackTraces = false) (hE : lEnv p s m c args b L xs D cX cM cD) (hq : q < 600) (hi : 0 ≤ i ∧ i + 5 ≤ (L : Int) ∧ L ≤ 2560) (h : lInv D cX cM cD oD s b i q H ls) (hc : cells + 8 ≤ 762397) (hs : slots + 40 ≤ 6708562) (kk : ∀ (H : Heap) (ls : Array Slot), lInv D cX cM cD oD s b i (q + 1) H ls → W p l e room_1 s m args below meth c H [] (cells + 8) (slots + 40) Q (F0 m 1699 ls [])) : W p l e room_1 s m args below meth c H [] cells slots Q (F0 m 458 ls []) := by
  obtain ⟨hx, hb, hml, hown, hts, hKX, hKM, hKD, hG, hN, hX, hbl⟩ := hE
  obtain ⟨n, am, S, nM, amM, M, v, hJ, hs0, hW, h9, hl⟩ := h
  have hr : room_1.cells = 762397 ∧ room_1.slots = 6708562 := ⟨rfl, rfl⟩
  have hv0 : 0 < nM 0 := hW.1 0 (by decide)
  have hvX : 0 < n 0 := hs0.1.1.1.1.1
  refine lv_aload_n hx hb dL_law_458 rfl (lv_at hl 1 rfl) ?_
  refine lv_aload_n hx hb dL_law_459 rfl (lv_at hl 0 rfl) ?_
  refine lv_iload hx hb dL_law_460 (lv_at hl 5 rfl) ?_
  refine z_iconst hx hb dL_law_462 ?_
  refine z_iadd hx hb dL_law_463 ?_
  refine lj_rd hx hb hX hbl hJ (by omega) (by omega) (by omega) dL_law_464 ?_
  refine lv_aload_n hx hb dL_law_465 rfl (lv_at hl 0 rfl) ?_
  refine lv_iload hx hb dL_law_466 (lv_at hl 5 rfl) ?_
  refine z_iconst hx hb dL_law_468 ?_
  refine z_iadd hx hb dL_law_469 ?_
  refine lj_rd hx hb hX hbl hJ (by omega) (by omega) (by omega) dL_law_470 ?_
  refine lj_i2c hx hb dL_law_471 ?_
  refine lv_aload_n hx hb dL_law_472 rfl (lv_at hl 0 rfl) ?_
  refine lv_iload hx hb dL_law_473 (lv_at hl 5 rfl) ?_
  refine z_iconst hx hb dL_law_475 ?_
  refine z_iadd hx hb dL_law_476 ?_
  refine lj_rd hx hb hX hbl hJ (by omega) (by omega) (by omega) dL_law_477 ?_
  refine lv_aload_n hx hb dL_law_478 rfl (lv_at hl 3 rfl) ?_
  refine lj_X_i (zHS (As := [.ref (am 0 0), .int (iZ (xi xs (i + 1))), .int (iZ (xc xs (i + 2))), .int (iZ (xi xs (i + 3))), .ref (am 9 0)]) (rest := []) ⟨hx, hb, hml, hown, hts⟩ (c_L_book l hfl D cX n am S H.size (xi xs (i + 1)) (xc xs (i + 2)) (xi xs (i + 3)) hs0.1.1.1 hs0.1.1.2.2.1 (xi_R _ _) (xc_R _ _) (xi_R _ _) h9) (vx_cwSW 5 hts gL_law_L_book rfl rfl rfl (by decide +kernel) ⟨Nat.le_of_ble_eq_true rfl, Nat.le_of_ble_eq_true rfl⟩) hKX hG hN hJ rfl hl.1 rfl (Nat.le_of_ble_eq_true rfl) dL_law_479 ⟨by rw [hr.1]; omega, by rw [hr.2]; omega⟩) hJ (fun k u H hk hp hJ => ?_)
  obtain ⟨n1, am1, S1, rfl, hk1, hn1, hO⟩ := op_book (nM := nM) (amM := amM) hs0 hW hq (xi xs (i + 1)) (xc xs (i + 2)) (xi xs (i + 3)) hp
  clear hp
  have h91 : 0 < n1 9 := Nat.lt_of_lt_of_le h9 (hn1 9)
  replace hl : lv_has ls 9 [(0, .ref b), (1, .ref (am1 0 0)), (2, .ref (amM 0 0)), (3, .ref (am1 9 0)), (4, .ref oD), (5, .int (iZ i))] := by rw [hk1 0 0 hvX, hk1 9 0 h9]; exact hl
  refine lv_istore (lv' := [(6, .int (iZ k)), (0, .ref b), (1, .ref (am1 0 0)), (2, .ref (amM 0 0)), (3, .ref (am1 9 0)), (4, .ref oD), (5, .int (iZ i))]) hx hb dL_law_482 hl (by decide) rfl (fun ls hl => ?_)
  refine lv_aload_n hx hb dL_law_484 rfl (lv_at hl 3 rfl) ?_
  refine lv_aload_n hx hb dL_law_485 rfl (lv_at hl 1 rfl) ?_
  refine lv_iload hx hb dL_law_486 (lv_at hl 6 rfl) ?_
  refine z_iconst hx hb dL_law_488 ?_
  refine z_iadd hx hb dL_law_489 ?_
  refine lj_rd hx hb hX hbl hJ (by omega) (by omega) (by omega) dL_law_490 ?_
  refine lv_aload_n hx hb dL_law_491 rfl (lv_at hl 1 rfl) ?_
  refine lv_iload hx hb dL_law_492 (lv_at hl 6 rfl) ?_
  refine z_iconst hx hb dL_law_494 ?_
  refine z_iadd hx hb dL_law_495 ?_
  refine lj_rd hx hb hX hbl hJ (by omega) (by omega) (by omega) dL_law_496 ?_
  refine lj_i2c hx hb dL_law_497 ?_
  refine lv_aload_n hx hb dL_law_498 rfl (lv_at hl 1 rfl) ?_
  refine lv_iload hx hb dL_law_499 (lv_at hl 6 rfl) ?_
  refine z_iconst hx hb dL_law_501 ?_
  refine z_iadd hx hb dL_law_502 ?_
  refine lj_rd hx hb hX hbl hJ (by omega) (by omega) (by omega) dL_law_503 ?_
  refine lj_M_i (zrV (As := [.int (iZ (xi xs (i + 1))), .int (iZ (xc xs (i + 2))), .int (iZ (xi xs (i + 3)))]) (rest := []) (κ := 0) (i := 0) ⟨hx, hb, hml, hown, hts⟩ (c_X5_book l D cM nM amM M H.size (xi xs (i + 1)) (xc xs (i + 2)) (xi xs (i + 3)) hW (xi_R _ _) (xc_R _ _) (xi_R _ _) hs0.1.mR) (cwV 3 hts gL_law_X5_book rfl rfl rfl (by decide +kernel) ⟨Nat.le_of_ble_eq_true rfl, Nat.le_of_ble_eq_true rfl⟩) hKM hJ.IM hv0 rfl rfl rfl hl.1 rfl (Nat.le_of_ble_eq_true rfl) dL_law_504 ⟨by rw [hr.1]; omega, by rw [hr.2]; omega⟩) hJ (fun z w H hz hp hJ => ?_)
  obtain ⟨M1, rfl, hW1, h24, hz0, hs1⟩ := hO _ _ hp
  clear hp hO
  refine lv_istore (lv' := [(7, .int (iZ z)), (6, .int (iZ k)), (0, .ref b), (1, .ref (am1 0 0)), (2, .ref (amM 0 0)), (3, .ref (am1 9 0)), (4, .ref oD), (5, .int (iZ i))]) hx hb dL_law_507 hl (by decide) rfl (fun ls hl => ?_)
  refine lv_aload_n hx hb dL_law_509 rfl (lv_at hl 4 rfl) ?_
  refine lj_M_i (zrV (As := []) (rest := []) (κ := 0) (i := 0) ⟨hx, hb, hml, hown, hts⟩ (c_X5_thrown l D cM nM amM M1 H.size hW1) (cwV 0 hts gL_law_X5_thrown rfl rfl rfl (by decide +kernel) ⟨Nat.le_of_ble_eq_true rfl, Nat.le_of_ble_eq_true rfl⟩) hKM hJ.IM hv0 rfl rfl rfl hl.1 rfl (Nat.le_of_ble_eq_true rfl) dL_law_510 ⟨by rw [hr.1]; omega, by rw [hr.2]; omega⟩) hJ (fun z2 w H hz2 hp hJ => ?_)
  obtain ⟨rfl, rfl⟩ := hp
  refine lv_iload hx hb dL_law_513 (lv_at hl 1 rfl) ?_
  refine z_icmp_eq (tgt := 520) hx hb dL_law_515 (by decide) hz2 hk (fun _ => ?_) (fun hz9 => absurd h24 hz9)
  refine lv_iload hx hb dL_law_520 (lv_at hl 1 rfl) ?_
  refine z_if_ne (tgt := 537) hx hb dL_law_522 (by decide) hk (fun hk0 => ?_) (fun hk0 => ?_)
  · refine lv_goto (tgt := 1699) hx hb dL_law_537 (by decide) ?_
    exact W.widen (by omega) (by omega) (kk _ _ ⟨_, _, _, _, _, _, _, hJ, hs1, hW1, h91, lv_sub hl [2, 3, 4, 5, 6, 7] rfl⟩)
  · refine lv_aload_n hx hb dL_law_525 rfl (lv_at hl 5 rfl) ?_
    refine z_iconst hx hb dL_law_526 ?_
    refine za_l (κ := 9) (i := 0) hx hb hKX hJ.IX h91 rfl (by decide) (by decide) (by decide) dL_law_527 (hz0 hk0) ?_
    refine lv_iload hx hb dL_law_528 (lv_at hl 0 rfl) ?_
    refine z_i2l hx hb dL_law_530 hz ?_
    refine lj_lcmp hx hb dL_law_531 ?_
    refine z_if_eq (tgt := 537) hx hb dL_law_532 (by decide) (by decide) (fun _ => ?_) (fun hz9 => absurd rfl hz9)
    refine lv_goto (tgt := 1699) hx hb dL_law_537 (by decide) ?_
    exact W.widen (by omega) (by omega) (kk _ _ ⟨_, _, _, _, _, _, _, hJ, hs1, hW1, h91, lv_sub hl [2, 3, 4, 5, 6, 7] rfl⟩)
set_option maxHeartbeats 4000000 in
set_option maxRecDepth 100000 in
theorem law_arrive {p : Program} {e : Env} {s : State} {m : MethodId} {below : List Frame} {meth : Method} {c : Code} {args : Array Value} {cells slots : Nat} {Q : State → Prop} {H : Heap} {ls : Array Slot} {b L : Nat} {xs : Nat → Int32} {D : va_G} {cX cM : Nat → ClassId} {cD : ClassId} {oD : Nat} {i : Int} {q : Nat} (l : Launch) (hfl : l.stackTraces = false) (hE : lEnv p s m c args b L xs D cX cM cD) (hq : q < 600) (hi : 0 ≤ i ∧ i + 5 ≤ (L : Int) ∧ L ≤ 2560) (h : lInv D cX cM cD oD s b i q H ls) (hc : cells + 8 ≤ 762397) (hs : slots + 40 ≤ 6708562) (kk : ∀ (H : Heap) (ls : Array Slot), lInv D cX cM cD oD s b i (q + 1) H ls → W p l e room_1 s m args below meth c H [] (cells + 8) (slots + 40) Q (F0 m 1699 ls [])) : W p l e room_1 s m args below meth c H [] cells slots Q (F0 m 540 ls []) := by
  obtain ⟨hx, hb, hml, hown, hts, hKX, hKM, hKD, hG, hN, hX, hbl⟩ := hE
  obtain ⟨n, am, S, nM, amM, M, v, hJ, hs0, hW, h9, hl⟩ := h
  have hr : room_1.cells = 762397 ∧ room_1.slots = 6708562 := ⟨rfl, rfl⟩
  have hv0 : 0 < nM 0 := hW.1 0 (by decide)
  have hvX : 0 < n 0 := hs0.1.1.1.1.1
  refine lv_aload_n hx hb dL_law_540 rfl (lv_at hl 1 rfl) ?_
  refine lv_aload_n hx hb dL_law_541 rfl (lv_at hl 0 rfl) ?_
  refine lv_iload hx hb dL_law_542 (lv_at hl 5 rfl) ?_
  refine z_iconst hx hb dL_law_544 ?_
  refine z_iadd hx hb dL_law_545 ?_
  refine lj_rd hx hb hX hbl hJ (by omega) (by omega) (by omega) dL_law_546 ?_
  refine lv_aload_n hx hb dL_law_547 rfl (lv_at hl 0 rfl) ?_
  refine lv_iload hx hb dL_law_548 (lv_at hl 5 rfl) ?_
  refine z_iconst hx hb dL_law_550 ?_
  refine z_iadd hx hb dL_law_551 ?_
  refine lj_rd hx hb hX hbl hJ (by omega) (by omega) (by omega) dL_law_552 ?_
  refine lv_aload_n hx hb dL_law_553 rfl (lv_at hl 3 rfl) ?_
  refine lj_X_i (zHS (As := [.ref (am 0 0), .int (iZ (xi xs (i + 1))), .int (iZ (xi xs (i + 2))), .ref (am 9 0)]) (rest := []) ⟨hx, hb, hml, hown, hts⟩ (c_L_arrive l hfl D cX n am S H.size (xi xs (i + 1)) (xi xs (i + 2)) hs0.1.1.1 (xi_R _ _) (xi_R _ _) (lOk hs0.1) h9) (vx_cwSW 4 hts gL_law_L_arrive rfl rfl rfl (by decide +kernel) ⟨Nat.le_of_ble_eq_true rfl, Nat.le_of_ble_eq_true rfl⟩) hKX hG hN hJ rfl hl.1 rfl (Nat.le_of_ble_eq_true rfl) dL_law_554 ⟨by rw [hr.1]; omega, by rw [hr.2]; omega⟩) hJ (fun k u H hk hp hJ => ?_)
  obtain ⟨n1, am1, S1, rfl, hk1, hn1, hO⟩ := op_arrive (nM := nM) (amM := amM) hs0 hW hq (xi xs (i + 1)) (xi xs (i + 2)) hp
  clear hp
  have h91 : 0 < n1 9 := Nat.lt_of_lt_of_le h9 (hn1 9)
  replace hl : lv_has ls 9 [(0, .ref b), (1, .ref (am1 0 0)), (2, .ref (amM 0 0)), (3, .ref (am1 9 0)), (4, .ref oD), (5, .int (iZ i))] := by rw [hk1 0 0 hvX, hk1 9 0 h9]; exact hl
  refine lv_istore (lv' := [(6, .int (iZ k)), (0, .ref b), (1, .ref (am1 0 0)), (2, .ref (amM 0 0)), (3, .ref (am1 9 0)), (4, .ref oD), (5, .int (iZ i))]) hx hb dL_law_557 hl (by decide) rfl (fun ls hl => ?_)
  refine lv_aload_n hx hb dL_law_559 rfl (lv_at hl 3 rfl) ?_
  refine lv_aload_n hx hb dL_law_560 rfl (lv_at hl 1 rfl) ?_
  refine lv_iload hx hb dL_law_561 (lv_at hl 6 rfl) ?_
  refine z_iconst hx hb dL_law_563 ?_
  refine z_iadd hx hb dL_law_564 ?_
  refine lj_rd hx hb hX hbl hJ (by omega) (by omega) (by omega) dL_law_565 ?_
  refine lv_aload_n hx hb dL_law_566 rfl (lv_at hl 1 rfl) ?_
  refine lv_iload hx hb dL_law_567 (lv_at hl 6 rfl) ?_
  refine z_iconst hx hb dL_law_569 ?_
  refine z_iadd hx hb dL_law_570 ?_
  refine lj_rd hx hb hX hbl hJ (by omega) (by omega) (by omega) dL_law_571 ?_
  refine lj_M_i (zrV (As := [.int (iZ (xi xs (i + 1))), .int (iZ (xi xs (i + 2)))]) (rest := []) (κ := 0) (i := 0) ⟨hx, hb, hml, hown, hts⟩ (c_X5_arrive l D cM nM amM M H.size (xi xs (i + 1)) (xi xs (i + 2)) hW (xi_R _ _) (xi_R _ _) hs0.1.mR) (cwV 2 hts gL_law_X5_arrive rfl rfl rfl (by decide +kernel) ⟨Nat.le_of_ble_eq_true rfl, Nat.le_of_ble_eq_true rfl⟩) hKM hJ.IM hv0 rfl rfl rfl hl.1 rfl (Nat.le_of_ble_eq_true rfl) dL_law_572 ⟨by rw [hr.1]; omega, by rw [hr.2]; omega⟩) hJ (fun z w H hz hp hJ => ?_)
  obtain ⟨M1, rfl, hW1, h24, hz0, hs1⟩ := hO _ _ hp
  clear hp hO
  refine lv_istore (lv' := [(7, .int (iZ z)), (6, .int (iZ k)), (0, .ref b), (1, .ref (am1 0 0)), (2, .ref (amM 0 0)), (3, .ref (am1 9 0)), (4, .ref oD), (5, .int (iZ i))]) hx hb dL_law_575 hl (by decide) rfl (fun ls hl => ?_)
  refine lv_aload_n hx hb dL_law_577 rfl (lv_at hl 4 rfl) ?_
  refine lj_M_i (zrV (As := []) (rest := []) (κ := 0) (i := 0) ⟨hx, hb, hml, hown, hts⟩ (c_X5_thrown l D cM nM amM M1 H.size hW1) (cwV 0 hts gL_law_X5_thrown rfl rfl rfl (by decide +kernel) ⟨Nat.le_of_ble_eq_true rfl, Nat.le_of_ble_eq_true rfl⟩) hKM hJ.IM hv0 rfl rfl rfl hl.1 rfl (Nat.le_of_ble_eq_true rfl) dL_law_578 ⟨by rw [hr.1]; omega, by rw [hr.2]; omega⟩) hJ (fun z2 w H hz2 hp hJ => ?_)
  obtain ⟨rfl, rfl⟩ := hp
  refine lv_iload hx hb dL_law_581 (lv_at hl 1 rfl) ?_
  refine z_icmp_eq (tgt := 588) hx hb dL_law_583 (by decide) hz2 hk (fun _ => ?_) (fun hz9 => absurd h24 hz9)
  refine lv_iload hx hb dL_law_588 (lv_at hl 1 rfl) ?_
  refine z_if_ne (tgt := 605) hx hb dL_law_590 (by decide) hk (fun hk0 => ?_) (fun hk0 => ?_)
  · refine lv_goto (tgt := 1699) hx hb dL_law_605 (by decide) ?_
    exact W.widen (by omega) (by omega) (kk _ _ ⟨_, _, _, _, _, _, _, hJ, hs1, hW1, h91, lv_sub hl [2, 3, 4, 5, 6, 7] rfl⟩)
  · refine lv_aload_n hx hb dL_law_593 rfl (lv_at hl 5 rfl) ?_
    refine z_iconst hx hb dL_law_594 ?_
    refine za_l (κ := 9) (i := 0) hx hb hKX hJ.IX h91 rfl (by decide) (by decide) (by decide) dL_law_595 (hz0 hk0) ?_
    refine lv_iload hx hb dL_law_596 (lv_at hl 0 rfl) ?_
    refine z_i2l hx hb dL_law_598 hz ?_
    refine lj_lcmp hx hb dL_law_599 ?_
    refine z_if_eq (tgt := 605) hx hb dL_law_600 (by decide) (by decide) (fun _ => ?_) (fun hz9 => absurd rfl hz9)
    refine lv_goto (tgt := 1699) hx hb dL_law_605 (by decide) ?_
    exact W.widen (by omega) (by omega) (kk _ _ ⟨_, _, _, _, _, _, _, hJ, hs1, hW1, h91, lv_sub hl [2, 3, 4, 5, 6, 7] rfl⟩)
set_option maxHeartbeats 4000000 in
set_option maxRecDepth 100000 in
theorem law_state {p : Program} {e : Env} {s : State} {m : MethodId} {below : List Frame} {meth : Method} {c : Code} {args : Array Value} {cells slots : Nat} {Q : State → Prop} {H : Heap} {ls : Array Slot} {b L : Nat} {xs : Nat → Int32} {D : va_G} {cX cM : Nat → ClassId} {cD : ClassId} {oD : Nat} {i : Int} {q : Nat} (l : Launch) (hfl : l.stackTraces = false) (hE : lEnv p s m c args b L xs D cX cM cD) (hq : q < 600) (hi : 0 ≤ i ∧ i + 5 ≤ (L : Int) ∧ L ≤ 2560) (h : lInv D cX cM cD oD s b i q H ls) (hc : cells + 8 ≤ 762397) (hs : slots + 40 ≤ 6708562) (kk : ∀ (H : Heap) (ls : Array Slot), lInv D cX cM cD oD s b i (q + 1) H ls → W p l e room_1 s m args below meth c H [] (cells + 8) (slots + 40) Q (F0 m 1699 ls [])) : W p l e room_1 s m args below meth c H [] cells slots Q (F0 m 608 ls []) := by
  obtain ⟨hx, hb, hml, hown, hts, hKX, hKM, hKD, hG, hN, hX, hbl⟩ := hE
  obtain ⟨n, am, S, nM, amM, M, v, hJ, hs0, hW, h9, hl⟩ := h
  have hr : room_1.cells = 762397 ∧ room_1.slots = 6708562 := ⟨rfl, rfl⟩
  have hv0 : 0 < nM 0 := hW.1 0 (by decide)
  have hvX : 0 < n 0 := hs0.1.1.1.1.1
  refine lv_aload_n hx hb dL_law_608 rfl (lv_at hl 1 rfl) ?_
  refine lv_aload_n hx hb dL_law_609 rfl (lv_at hl 0 rfl) ?_
  refine lv_iload hx hb dL_law_610 (lv_at hl 5 rfl) ?_
  refine z_iconst hx hb dL_law_612 ?_
  refine z_iadd hx hb dL_law_613 ?_
  refine lj_rd hx hb hX hbl hJ (by omega) (by omega) (by omega) dL_law_614 ?_
  refine lv_aload_n hx hb dL_law_615 rfl (lv_at hl 3 rfl) ?_
  refine lj_X_i (zHS (As := [.ref (am 0 0), .int (iZ (xi xs (i + 1))), .ref (am 9 0)]) (rest := []) ⟨hx, hb, hml, hown, hts⟩ (c_L_state l hfl D cX n am S H.size (xi xs (i + 1)) hs0.1.1.1 (xi_R _ _) hs0.1.1.2.2.1 h9) (vx_cwSW 3 hts gL_law_L_state rfl rfl rfl (by decide +kernel) ⟨Nat.le_of_ble_eq_true rfl, Nat.le_of_ble_eq_true rfl⟩) hKX hG hN hJ rfl hl.1 rfl (Nat.le_of_ble_eq_true rfl) dL_law_616 ⟨by rw [hr.1]; omega, by rw [hr.2]; omega⟩) hJ (fun k u H hk hp hJ => ?_)
  obtain ⟨n1, am1, S1, rfl, hk1, hn1, hO⟩ := op_state (nM := nM) (amM := amM) hs0 hW hq (xi xs (i + 1)) hp
  clear hp
  have h91 : 0 < n1 9 := Nat.lt_of_lt_of_le h9 (hn1 9)
  replace hl : lv_has ls 9 [(0, .ref b), (1, .ref (am1 0 0)), (2, .ref (amM 0 0)), (3, .ref (am1 9 0)), (4, .ref oD), (5, .int (iZ i))] := by rw [hk1 0 0 hvX, hk1 9 0 h9]; exact hl
  refine lv_istore (lv' := [(6, .int (iZ k)), (0, .ref b), (1, .ref (am1 0 0)), (2, .ref (amM 0 0)), (3, .ref (am1 9 0)), (4, .ref oD), (5, .int (iZ i))]) hx hb dL_law_619 hl (by decide) rfl (fun ls hl => ?_)
  refine lv_aload_n hx hb dL_law_621 rfl (lv_at hl 3 rfl) ?_
  refine lv_aload_n hx hb dL_law_622 rfl (lv_at hl 1 rfl) ?_
  refine lv_iload hx hb dL_law_623 (lv_at hl 6 rfl) ?_
  refine z_iconst hx hb dL_law_625 ?_
  refine z_iadd hx hb dL_law_626 ?_
  refine lj_rd hx hb hX hbl hJ (by omega) (by omega) (by omega) dL_law_627 ?_
  refine lj_M_i (zrV (As := [.int (iZ (xi xs (i + 1)))]) (rest := []) (κ := 0) (i := 0) ⟨hx, hb, hml, hown, hts⟩ (c_X5_state l D cM nM amM M H.size (xi xs (i + 1)) hW (xi_R _ _) hs0.1.mR) (cwV 1 hts gL_law_X5_state rfl rfl rfl (by decide +kernel) ⟨Nat.le_of_ble_eq_true rfl, Nat.le_of_ble_eq_true rfl⟩) hKM hJ.IM hv0 rfl rfl rfl hl.1 rfl (Nat.le_of_ble_eq_true rfl) dL_law_628 ⟨by rw [hr.1]; omega, by rw [hr.2]; omega⟩) hJ (fun z w H hz hp hJ => ?_)
  obtain ⟨M1, rfl, hW1, h24, hz0, hs1⟩ := hO _ _ hp
  clear hp hO
  refine lv_istore (lv' := [(7, .int (iZ z)), (6, .int (iZ k)), (0, .ref b), (1, .ref (am1 0 0)), (2, .ref (amM 0 0)), (3, .ref (am1 9 0)), (4, .ref oD), (5, .int (iZ i))]) hx hb dL_law_631 hl (by decide) rfl (fun ls hl => ?_)
  refine lv_aload_n hx hb dL_law_633 rfl (lv_at hl 4 rfl) ?_
  refine lj_M_i (zrV (As := []) (rest := []) (κ := 0) (i := 0) ⟨hx, hb, hml, hown, hts⟩ (c_X5_thrown l D cM nM amM M1 H.size hW1) (cwV 0 hts gL_law_X5_thrown rfl rfl rfl (by decide +kernel) ⟨Nat.le_of_ble_eq_true rfl, Nat.le_of_ble_eq_true rfl⟩) hKM hJ.IM hv0 rfl rfl rfl hl.1 rfl (Nat.le_of_ble_eq_true rfl) dL_law_634 ⟨by rw [hr.1]; omega, by rw [hr.2]; omega⟩) hJ (fun z2 w H hz2 hp hJ => ?_)
  obtain ⟨rfl, rfl⟩ := hp
  refine lv_iload hx hb dL_law_637 (lv_at hl 1 rfl) ?_
  refine z_icmp_eq (tgt := 644) hx hb dL_law_639 (by decide) hz2 hk (fun _ => ?_) (fun hz9 => absurd h24 hz9)
  refine lv_iload hx hb dL_law_644 (lv_at hl 1 rfl) ?_
  refine z_if_ne (tgt := 661) hx hb dL_law_646 (by decide) hk (fun hk0 => ?_) (fun hk0 => ?_)
  · refine lv_goto (tgt := 1699) hx hb dL_law_661 (by decide) ?_
    exact W.widen (by omega) (by omega) (kk _ _ ⟨_, _, _, _, _, _, _, hJ, hs1, hW1, h91, lv_sub hl [2, 3, 4, 5, 6, 7] rfl⟩)
  · refine lv_aload_n hx hb dL_law_649 rfl (lv_at hl 5 rfl) ?_
    refine z_iconst hx hb dL_law_650 ?_
    refine za_l (κ := 9) (i := 0) hx hb hKX hJ.IX h91 rfl (by decide) (by decide) (by decide) dL_law_651 (hz0 hk0) ?_
    refine lv_iload hx hb dL_law_652 (lv_at hl 0 rfl) ?_
    refine z_i2l hx hb dL_law_654 hz ?_
    refine lj_lcmp hx hb dL_law_655 ?_
    refine z_if_eq (tgt := 661) hx hb dL_law_656 (by decide) (by decide) (fun _ => ?_) (fun hz9 => absurd rfl hz9)
    refine lv_goto (tgt := 1699) hx hb dL_law_661 (by decide) ?_
    exact W.widen (by omega) (by omega) (kk _ _ ⟨_, _, _, _, _, _, _, hJ, hs1, hW1, h91, lv_sub hl [2, 3, 4, 5, 6, 7] rfl⟩)
set_option maxHeartbeats 4000000 in
set_option maxRecDepth 100000 in
theorem law_punctuality {p : Program} {e : Env} {s : State} {m : MethodId} {below : List Frame} {meth : Method} {c : Code} {args : Array Value} {cells slots : Nat} {Q : State → Prop} {H : Heap} {ls : Array Slot} {b L : Nat} {xs : Nat → Int32} {D : va_G} {cX cM : Nat → ClassId} {cD : ClassId} {oD : Nat} {i : Int} {q : Nat} (l : Launch) (hfl : l.stackTraces = false) (hE : lEnv p s m c args b L xs D cX cM cD) (hq : q < 600) (hi : 0 ≤ i ∧ i + 5 ≤ (L : Int) ∧ L ≤ 2560) (h : lInv D cX cM cD oD s b i q H ls) (hc : cells + 8 ≤ 762397) (hs : slots + 40 ≤ 6708562) (kk : ∀ (H : Heap) (ls : Array Slot), lInv D cX cM cD oD s b i (q + 1) H ls → W p l e room_1 s m args below meth c H [] (cells + 8) (slots + 40) Q (F0 m 1699 ls [])) : W p l e room_1 s m args below meth c H [] cells slots Q (F0 m 664 ls []) := by
  obtain ⟨hx, hb, hml, hown, hts, hKX, hKM, hKD, hG, hN, hX, hbl⟩ := hE
  obtain ⟨n, am, S, nM, amM, M, v, hJ, hs0, hW, h9, hl⟩ := h
  have hr : room_1.cells = 762397 ∧ room_1.slots = 6708562 := ⟨rfl, rfl⟩
  have hv0 : 0 < nM 0 := hW.1 0 (by decide)
  have hvX : 0 < n 0 := hs0.1.1.1.1.1
  refine lv_aload_n hx hb dL_law_664 rfl (lv_at hl 1 rfl) ?_
  refine lv_aload_n hx hb dL_law_665 rfl (lv_at hl 0 rfl) ?_
  refine lv_iload hx hb dL_law_666 (lv_at hl 5 rfl) ?_
  refine z_iconst hx hb dL_law_668 ?_
  refine z_iadd hx hb dL_law_669 ?_
  refine lj_rd hx hb hX hbl hJ (by omega) (by omega) (by omega) dL_law_670 ?_
  refine lv_aload_n hx hb dL_law_671 rfl (lv_at hl 3 rfl) ?_
  refine lj_X_i (zHS (As := [.ref (am 0 0), .int (iZ (xi xs (i + 1))), .ref (am 9 0)]) (rest := []) ⟨hx, hb, hml, hown, hts⟩ (c_L_punctuality l hfl D cX n am S H.size (xi xs (i + 1)) hs0.1.1.1 (xi_R _ _) h9) (vx_cwSW 3 hts gL_law_L_punctuality rfl rfl rfl (by decide +kernel) ⟨Nat.le_of_ble_eq_true rfl, Nat.le_of_ble_eq_true rfl⟩) hKX hG hN hJ rfl hl.1 rfl (Nat.le_of_ble_eq_true rfl) dL_law_672 ⟨by rw [hr.1]; omega, by rw [hr.2]; omega⟩) hJ (fun k u H hk hp hJ => ?_)
  obtain ⟨n1, am1, S1, rfl, hk1, hn1, hO⟩ := op_punctuality (nM := nM) (amM := amM) hs0 hW hq (xi xs (i + 1)) hp
  clear hp
  have h91 : 0 < n1 9 := Nat.lt_of_lt_of_le h9 (hn1 9)
  replace hl : lv_has ls 9 [(0, .ref b), (1, .ref (am1 0 0)), (2, .ref (amM 0 0)), (3, .ref (am1 9 0)), (4, .ref oD), (5, .int (iZ i))] := by rw [hk1 0 0 hvX, hk1 9 0 h9]; exact hl
  refine lv_istore (lv' := [(6, .int (iZ k)), (0, .ref b), (1, .ref (am1 0 0)), (2, .ref (amM 0 0)), (3, .ref (am1 9 0)), (4, .ref oD), (5, .int (iZ i))]) hx hb dL_law_675 hl (by decide) rfl (fun ls hl => ?_)
  refine lv_aload_n hx hb dL_law_677 rfl (lv_at hl 3 rfl) ?_
  refine lv_aload_n hx hb dL_law_678 rfl (lv_at hl 1 rfl) ?_
  refine lv_iload hx hb dL_law_679 (lv_at hl 6 rfl) ?_
  refine z_iconst hx hb dL_law_681 ?_
  refine z_iadd hx hb dL_law_682 ?_
  refine lj_rd hx hb hX hbl hJ (by omega) (by omega) (by omega) dL_law_683 ?_
  refine lj_M_i (zrV (As := [.int (iZ (xi xs (i + 1)))]) (rest := []) (κ := 0) (i := 0) ⟨hx, hb, hml, hown, hts⟩ (c_X5_punctuality l D cM nM amM M H.size (xi xs (i + 1)) hW (xi_R _ _) hs0.1.mR) (cwV 1 hts gL_law_X5_punctuality rfl rfl rfl (by decide +kernel) ⟨Nat.le_of_ble_eq_true rfl, Nat.le_of_ble_eq_true rfl⟩) hKM hJ.IM hv0 rfl rfl rfl hl.1 rfl (Nat.le_of_ble_eq_true rfl) dL_law_684 ⟨by rw [hr.1]; omega, by rw [hr.2]; omega⟩) hJ (fun z w H hz hp hJ => ?_)
  obtain ⟨M1, rfl, hW1, h24, hz0, hs1⟩ := hO _ _ hp
  clear hp hO
  refine lv_istore (lv' := [(7, .int (iZ z)), (6, .int (iZ k)), (0, .ref b), (1, .ref (am1 0 0)), (2, .ref (amM 0 0)), (3, .ref (am1 9 0)), (4, .ref oD), (5, .int (iZ i))]) hx hb dL_law_687 hl (by decide) rfl (fun ls hl => ?_)
  refine lv_aload_n hx hb dL_law_689 rfl (lv_at hl 4 rfl) ?_
  refine lj_M_i (zrV (As := []) (rest := []) (κ := 0) (i := 0) ⟨hx, hb, hml, hown, hts⟩ (c_X5_thrown l D cM nM amM M1 H.size hW1) (cwV 0 hts gL_law_X5_thrown rfl rfl rfl (by decide +kernel) ⟨Nat.le_of_ble_eq_true rfl, Nat.le_of_ble_eq_true rfl⟩) hKM hJ.IM hv0 rfl rfl rfl hl.1 rfl (Nat.le_of_ble_eq_true rfl) dL_law_690 ⟨by rw [hr.1]; omega, by rw [hr.2]; omega⟩) hJ (fun z2 w H hz2 hp hJ => ?_)
  obtain ⟨rfl, rfl⟩ := hp
  refine lv_iload hx hb dL_law_693 (lv_at hl 1 rfl) ?_
  refine z_icmp_eq (tgt := 700) hx hb dL_law_695 (by decide) hz2 hk (fun _ => ?_) (fun hz9 => absurd h24 hz9)
  refine lv_iload hx hb dL_law_700 (lv_at hl 1 rfl) ?_
  refine z_if_ne (tgt := 717) hx hb dL_law_702 (by decide) hk (fun hk0 => ?_) (fun hk0 => ?_)
  · refine lv_goto (tgt := 1699) hx hb dL_law_717 (by decide) ?_
    exact W.widen (by omega) (by omega) (kk _ _ ⟨_, _, _, _, _, _, _, hJ, hs1, hW1, h91, lv_sub hl [2, 3, 4, 5, 6, 7] rfl⟩)
  · refine lv_aload_n hx hb dL_law_705 rfl (lv_at hl 5 rfl) ?_
    refine z_iconst hx hb dL_law_706 ?_
    refine za_l (κ := 9) (i := 0) hx hb hKX hJ.IX h91 rfl (by decide) (by decide) (by decide) dL_law_707 (hz0 hk0) ?_
    refine lv_iload hx hb dL_law_708 (lv_at hl 0 rfl) ?_
    refine z_i2l hx hb dL_law_710 hz ?_
    refine lj_lcmp hx hb dL_law_711 ?_
    refine z_if_eq (tgt := 717) hx hb dL_law_712 (by decide) (by decide) (fun _ => ?_) (fun hz9 => absurd rfl hz9)
    refine lv_goto (tgt := 1699) hx hb dL_law_717 (by decide) ?_
    exact W.widen (by omega) (by omega) (kk _ _ ⟨_, _, _, _, _, _, _, hJ, hs1, hW1, h91, lv_sub hl [2, 3, 4, 5, 6, 7] rfl⟩)
set_option maxHeartbeats 4000000 in
set_option maxRecDepth 100000 in
theorem law_nextBooked {p : Program} {e : Env} {s : State} {m : MethodId} {below : List Frame} {meth : Method} {c : Code} {args : Array Value} {cells slots : Nat} {Q : State → Prop} {H : Heap} {ls : Array Slot} {b L : Nat} {xs : Nat → Int32} {D : va_G} {cX cM : Nat → ClassId} {cD : ClassId} {oD : Nat} {i : Int} {q : Nat} (l : Launch) (hfl : l.stackTraces = false) (hE : lEnv p s m c args b L xs D cX cM cD) (hq : q < 600) (hi : 0 ≤ i ∧ i + 5 ≤ (L : Int) ∧ L ≤ 2560) (h : lInv D cX cM cD oD s b i q H ls) (hc : cells + 8 ≤ 762397) (hs : slots + 40 ≤ 6708562) (kk : ∀ (H : Heap) (ls : Array Slot), lInv D cX cM cD oD s b i (q + 1) H ls → W p l e room_1 s m args below meth c H [] (cells + 8) (slots + 40) Q (F0 m 1699 ls [])) : W p l e room_1 s m args below meth c H [] cells slots Q (F0 m 720 ls []) := by
  obtain ⟨hx, hb, hml, hown, hts, hKX, hKM, hKD, hG, hN, hX, hbl⟩ := hE
  obtain ⟨n, am, S, nM, amM, M, v, hJ, hs0, hW, h9, hl⟩ := h
  have hr : room_1.cells = 762397 ∧ room_1.slots = 6708562 := ⟨rfl, rfl⟩
  have hv0 : 0 < nM 0 := hW.1 0 (by decide)
  have hvX : 0 < n 0 := hs0.1.1.1.1.1
  refine lv_aload_n hx hb dL_law_720 rfl (lv_at hl 1 rfl) ?_
  refine lv_aload_n hx hb dL_law_721 rfl (lv_at hl 3 rfl) ?_
  refine lj_X_i (zHS (As := [.ref (am 0 0), .ref (am 9 0)]) (rest := []) ⟨hx, hb, hml, hown, hts⟩ (c_L_nextBooked l hfl D cX n am S H.size hs0.1.1.1 h9) (vx_cwSW 2 hts gL_law_L_nextBooked rfl rfl rfl (by decide +kernel) ⟨Nat.le_of_ble_eq_true rfl, Nat.le_of_ble_eq_true rfl⟩) hKX hG hN hJ rfl hl.1 rfl (Nat.le_of_ble_eq_true rfl) dL_law_722 ⟨by rw [hr.1]; omega, by rw [hr.2]; omega⟩) hJ (fun k u H hk hp hJ => ?_)
  obtain ⟨n1, am1, S1, rfl, hk1, hn1, hO⟩ := op_nextBooked (nM := nM) (amM := amM) hs0 hW hq  hp
  clear hp
  have h91 : 0 < n1 9 := Nat.lt_of_lt_of_le h9 (hn1 9)
  replace hl : lv_has ls 9 [(0, .ref b), (1, .ref (am1 0 0)), (2, .ref (amM 0 0)), (3, .ref (am1 9 0)), (4, .ref oD), (5, .int (iZ i))] := by rw [hk1 0 0 hvX, hk1 9 0 h9]; exact hl
  refine lv_istore (lv' := [(6, .int (iZ k)), (0, .ref b), (1, .ref (am1 0 0)), (2, .ref (amM 0 0)), (3, .ref (am1 9 0)), (4, .ref oD), (5, .int (iZ i))]) hx hb dL_law_725 hl (by decide) rfl (fun ls hl => ?_)
  refine lv_aload_n hx hb dL_law_727 rfl (lv_at hl 3 rfl) ?_
  refine lj_M_i (zrV (As := []) (rest := []) (κ := 0) (i := 0) ⟨hx, hb, hml, hown, hts⟩ (c_X5_nextBooked l D cM nM amM M H.size hW hs0.1.mR) (cwV 0 hts gL_law_X5_nextBooked rfl rfl rfl (by decide +kernel) ⟨Nat.le_of_ble_eq_true rfl, Nat.le_of_ble_eq_true rfl⟩) hKM hJ.IM hv0 rfl rfl rfl hl.1 rfl (Nat.le_of_ble_eq_true rfl) dL_law_728 ⟨by rw [hr.1]; omega, by rw [hr.2]; omega⟩) hJ (fun z w H hz hp hJ => ?_)
  obtain ⟨M1, rfl, hW1, h24, hz0, hs1⟩ := hO _ _ hp
  clear hp hO
  refine lv_istore (lv' := [(7, .int (iZ z)), (6, .int (iZ k)), (0, .ref b), (1, .ref (am1 0 0)), (2, .ref (amM 0 0)), (3, .ref (am1 9 0)), (4, .ref oD), (5, .int (iZ i))]) hx hb dL_law_731 hl (by decide) rfl (fun ls hl => ?_)
  refine lv_aload_n hx hb dL_law_733 rfl (lv_at hl 4 rfl) ?_
  refine lj_M_i (zrV (As := []) (rest := []) (κ := 0) (i := 0) ⟨hx, hb, hml, hown, hts⟩ (c_X5_thrown l D cM nM amM M1 H.size hW1) (cwV 0 hts gL_law_X5_thrown rfl rfl rfl (by decide +kernel) ⟨Nat.le_of_ble_eq_true rfl, Nat.le_of_ble_eq_true rfl⟩) hKM hJ.IM hv0 rfl rfl rfl hl.1 rfl (Nat.le_of_ble_eq_true rfl) dL_law_734 ⟨by rw [hr.1]; omega, by rw [hr.2]; omega⟩) hJ (fun z2 w H hz2 hp hJ => ?_)
  obtain ⟨rfl, rfl⟩ := hp
  refine lv_iload hx hb dL_law_737 (lv_at hl 1 rfl) ?_
  refine z_icmp_eq (tgt := 744) hx hb dL_law_739 (by decide) hz2 hk (fun _ => ?_) (fun hz9 => absurd h24 hz9)
  refine lv_iload hx hb dL_law_744 (lv_at hl 1 rfl) ?_
  refine z_if_ne (tgt := 761) hx hb dL_law_746 (by decide) hk (fun hk0 => ?_) (fun hk0 => ?_)
  · refine lv_goto (tgt := 1699) hx hb dL_law_761 (by decide) ?_
    exact W.widen (by omega) (by omega) (kk _ _ ⟨_, _, _, _, _, _, _, hJ, hs1, hW1, h91, lv_sub hl [2, 3, 4, 5, 6, 7] rfl⟩)
  · refine lv_aload_n hx hb dL_law_749 rfl (lv_at hl 5 rfl) ?_
    refine z_iconst hx hb dL_law_750 ?_
    refine za_l (κ := 9) (i := 0) hx hb hKX hJ.IX h91 rfl (by decide) (by decide) (by decide) dL_law_751 (hz0 hk0) ?_
    refine lv_iload hx hb dL_law_752 (lv_at hl 0 rfl) ?_
    refine z_i2l hx hb dL_law_754 hz ?_
    refine lj_lcmp hx hb dL_law_755 ?_
    refine z_if_eq (tgt := 761) hx hb dL_law_756 (by decide) (by decide) (fun _ => ?_) (fun hz9 => absurd rfl hz9)
    refine lv_goto (tgt := 1699) hx hb dL_law_761 (by decide) ?_
    exact W.widen (by omega) (by omega) (kk _ _ ⟨_, _, _, _, _, _, _, hJ, hs1, hW1, h91, lv_sub hl [2, 3, 4, 5, 6, 7] rfl⟩)
set_option maxHeartbeats 4000000 in
set_option maxRecDepth 100000 in
theorem law_shift {p : Program} {e : Env} {s : State} {m : MethodId} {below : List Frame} {meth : Method} {c : Code} {args : Array Value} {cells slots : Nat} {Q : State → Prop} {H : Heap} {ls : Array Slot} {b L : Nat} {xs : Nat → Int32} {D : va_G} {cX cM : Nat → ClassId} {cD : ClassId} {oD : Nat} {i : Int} {q : Nat} (l : Launch) (hfl : l.stackTraces = false) (hE : lEnv p s m c args b L xs D cX cM cD) (hq : q < 600) (hi : 0 ≤ i ∧ i + 5 ≤ (L : Int) ∧ L ≤ 2560) (h : lInv D cX cM cD oD s b i q H ls) (hc : cells + 8 ≤ 762397) (hs : slots + 40 ≤ 6708562) (kk : ∀ (H : Heap) (ls : Array Slot), lInv D cX cM cD oD s b i (q + 1) H ls → W p l e room_1 s m args below meth c H [] (cells + 8) (slots + 40) Q (F0 m 1699 ls [])) : W p l e room_1 s m args below meth c H [] cells slots Q (F0 m 764 ls []) := by
  obtain ⟨hx, hb, hml, hown, hts, hKX, hKM, hKD, hG, hN, hX, hbl⟩ := hE
  obtain ⟨n, am, S, nM, amM, M, v, hJ, hs0, hW, h9, hl⟩ := h
  have hr : room_1.cells = 762397 ∧ room_1.slots = 6708562 := ⟨rfl, rfl⟩
  have hv0 : 0 < nM 0 := hW.1 0 (by decide)
  have hvX : 0 < n 0 := hs0.1.1.1.1.1
  refine lv_aload_n hx hb dL_law_764 rfl (lv_at hl 1 rfl) ?_
  refine lv_aload_n hx hb dL_law_765 rfl (lv_at hl 0 rfl) ?_
  refine lv_iload hx hb dL_law_766 (lv_at hl 5 rfl) ?_
  refine z_iconst hx hb dL_law_768 ?_
  refine z_iadd hx hb dL_law_769 ?_
  refine lj_rd hx hb hX hbl hJ (by omega) (by omega) (by omega) dL_law_770 ?_
  refine lv_aload_n hx hb dL_law_771 rfl (lv_at hl 0 rfl) ?_
  refine lv_iload hx hb dL_law_772 (lv_at hl 5 rfl) ?_
  refine z_iconst hx hb dL_law_774 ?_
  refine z_iadd hx hb dL_law_775 ?_
  refine lj_rd hx hb hX hbl hJ (by omega) (by omega) (by omega) dL_law_776 ?_
  refine lv_aload_n hx hb dL_law_777 rfl (lv_at hl 3 rfl) ?_
  refine lj_X_i (zHS (As := [.ref (am 0 0), .int (iZ (xi xs (i + 1))), .int (iZ (xi xs (i + 2))), .ref (am 9 0)]) (rest := []) ⟨hx, hb, hml, hown, hts⟩ (c_L_shift l hfl D cX n am S H.size (xi xs (i + 1)) (xi xs (i + 2)) hs0.1.1.1 (xi_R _ _) (xi_R _ _) hs0.1.1.2.2.1 h9) (vx_cwSW 4 hts gL_law_L_shift rfl rfl rfl (by decide +kernel) ⟨Nat.le_of_ble_eq_true rfl, Nat.le_of_ble_eq_true rfl⟩) hKX hG hN hJ rfl hl.1 rfl (Nat.le_of_ble_eq_true rfl) dL_law_778 ⟨by rw [hr.1]; omega, by rw [hr.2]; omega⟩) hJ (fun k u H hk hp hJ => ?_)
  obtain ⟨n1, am1, S1, rfl, hk1, hn1, hO⟩ := op_shift (nM := nM) (amM := amM) hs0 hW hq (xi xs (i + 1)) (xi xs (i + 2)) hp
  clear hp
  have h91 : 0 < n1 9 := Nat.lt_of_lt_of_le h9 (hn1 9)
  replace hl : lv_has ls 9 [(0, .ref b), (1, .ref (am1 0 0)), (2, .ref (amM 0 0)), (3, .ref (am1 9 0)), (4, .ref oD), (5, .int (iZ i))] := by rw [hk1 0 0 hvX, hk1 9 0 h9]; exact hl
  refine lv_istore (lv' := [(6, .int (iZ k)), (0, .ref b), (1, .ref (am1 0 0)), (2, .ref (amM 0 0)), (3, .ref (am1 9 0)), (4, .ref oD), (5, .int (iZ i))]) hx hb dL_law_781 hl (by decide) rfl (fun ls hl => ?_)
  refine lv_aload_n hx hb dL_law_783 rfl (lv_at hl 3 rfl) ?_
  refine lv_aload_n hx hb dL_law_784 rfl (lv_at hl 1 rfl) ?_
  refine lv_iload hx hb dL_law_785 (lv_at hl 6 rfl) ?_
  refine z_iconst hx hb dL_law_787 ?_
  refine z_iadd hx hb dL_law_788 ?_
  refine lj_rd hx hb hX hbl hJ (by omega) (by omega) (by omega) dL_law_789 ?_
  refine lv_aload_n hx hb dL_law_790 rfl (lv_at hl 1 rfl) ?_
  refine lv_iload hx hb dL_law_791 (lv_at hl 6 rfl) ?_
  refine z_iconst hx hb dL_law_793 ?_
  refine z_iadd hx hb dL_law_794 ?_
  refine lj_rd hx hb hX hbl hJ (by omega) (by omega) (by omega) dL_law_795 ?_
  refine lj_M_i (zrV (As := [.int (iZ (xi xs (i + 1))), .int (iZ (xi xs (i + 2)))]) (rest := []) (κ := 0) (i := 0) ⟨hx, hb, hml, hown, hts⟩ (c_X5_shift l D cM nM amM M H.size (xi xs (i + 1)) (xi xs (i + 2)) hW (xi_R _ _) (xi_R _ _) hs0.1.mR) (cwV 2 hts gL_law_X5_shift rfl rfl rfl (by decide +kernel) ⟨Nat.le_of_ble_eq_true rfl, Nat.le_of_ble_eq_true rfl⟩) hKM hJ.IM hv0 rfl rfl rfl hl.1 rfl (Nat.le_of_ble_eq_true rfl) dL_law_796 ⟨by rw [hr.1]; omega, by rw [hr.2]; omega⟩) hJ (fun z w H hz hp hJ => ?_)
  obtain ⟨M1, rfl, hW1, h24, hz0, hs1⟩ := hO _ _ hp
  clear hp hO
  refine lv_istore (lv' := [(7, .int (iZ z)), (6, .int (iZ k)), (0, .ref b), (1, .ref (am1 0 0)), (2, .ref (amM 0 0)), (3, .ref (am1 9 0)), (4, .ref oD), (5, .int (iZ i))]) hx hb dL_law_799 hl (by decide) rfl (fun ls hl => ?_)
  refine lv_aload_n hx hb dL_law_801 rfl (lv_at hl 4 rfl) ?_
  refine lj_M_i (zrV (As := []) (rest := []) (κ := 0) (i := 0) ⟨hx, hb, hml, hown, hts⟩ (c_X5_thrown l D cM nM amM M1 H.size hW1) (cwV 0 hts gL_law_X5_thrown rfl rfl rfl (by decide +kernel) ⟨Nat.le_of_ble_eq_true rfl, Nat.le_of_ble_eq_true rfl⟩) hKM hJ.IM hv0 rfl rfl rfl hl.1 rfl (Nat.le_of_ble_eq_true rfl) dL_law_802 ⟨by rw [hr.1]; omega, by rw [hr.2]; omega⟩) hJ (fun z2 w H hz2 hp hJ => ?_)
  obtain ⟨rfl, rfl⟩ := hp
  refine lv_iload hx hb dL_law_805 (lv_at hl 1 rfl) ?_
  refine z_icmp_eq (tgt := 812) hx hb dL_law_807 (by decide) hz2 hk (fun _ => ?_) (fun hz9 => absurd h24 hz9)
  refine lv_iload hx hb dL_law_812 (lv_at hl 1 rfl) ?_
  refine z_if_ne (tgt := 829) hx hb dL_law_814 (by decide) hk (fun hk0 => ?_) (fun hk0 => ?_)
  · refine lv_goto (tgt := 1699) hx hb dL_law_829 (by decide) ?_
    exact W.widen (by omega) (by omega) (kk _ _ ⟨_, _, _, _, _, _, _, hJ, hs1, hW1, h91, lv_sub hl [2, 3, 4, 5, 6, 7] rfl⟩)
  · refine lv_aload_n hx hb dL_law_817 rfl (lv_at hl 5 rfl) ?_
    refine z_iconst hx hb dL_law_818 ?_
    refine za_l (κ := 9) (i := 0) hx hb hKX hJ.IX h91 rfl (by decide) (by decide) (by decide) dL_law_819 (hz0 hk0) ?_
    refine lv_iload hx hb dL_law_820 (lv_at hl 0 rfl) ?_
    refine z_i2l hx hb dL_law_822 hz ?_
    refine lj_lcmp hx hb dL_law_823 ?_
    refine z_if_eq (tgt := 829) hx hb dL_law_824 (by decide) (by decide) (fun _ => ?_) (fun hz9 => absurd rfl hz9)
    refine lv_goto (tgt := 1699) hx hb dL_law_829 (by decide) ?_
    exact W.widen (by omega) (by omega) (kk _ _ ⟨_, _, _, _, _, _, _, hJ, hs1, hW1, h91, lv_sub hl [2, 3, 4, 5, 6, 7] rfl⟩)
set_option maxHeartbeats 4000000 in
set_option maxRecDepth 100000 in
theorem law_dock {p : Program} {e : Env} {s : State} {m : MethodId} {below : List Frame} {meth : Method} {c : Code} {args : Array Value} {cells slots : Nat} {Q : State → Prop} {H : Heap} {ls : Array Slot} {b L : Nat} {xs : Nat → Int32} {D : va_G} {cX cM : Nat → ClassId} {cD : ClassId} {oD : Nat} {i : Int} {q : Nat} (l : Launch) (hfl : l.stackTraces = false) (hE : lEnv p s m c args b L xs D cX cM cD) (hq : q < 600) (hi : 0 ≤ i ∧ i + 5 ≤ (L : Int) ∧ L ≤ 2560) (h : lInv D cX cM cD oD s b i q H ls) (hc : cells + 8 ≤ 762397) (hs : slots + 40 ≤ 6708562) (kk : ∀ (H : Heap) (ls : Array Slot), lInv D cX cM cD oD s b i (q + 1) H ls → W p l e room_1 s m args below meth c H [] (cells + 8) (slots + 40) Q (F0 m 1699 ls [])) : W p l e room_1 s m args below meth c H [] cells slots Q (F0 m 832 ls []) := by
  obtain ⟨hx, hb, hml, hown, hts, hKX, hKM, hKD, hG, hN, hX, hbl⟩ := hE
  obtain ⟨n, am, S, nM, amM, M, v, hJ, hs0, hW, h9, hl⟩ := h
  have hr : room_1.cells = 762397 ∧ room_1.slots = 6708562 := ⟨rfl, rfl⟩
  have hv0 : 0 < nM 0 := hW.1 0 (by decide)
  have hvX : 0 < n 0 := hs0.1.1.1.1.1
  refine lv_aload_n hx hb dL_law_832 rfl (lv_at hl 1 rfl) ?_
  refine lv_aload_n hx hb dL_law_833 rfl (lv_at hl 0 rfl) ?_
  refine lv_iload hx hb dL_law_834 (lv_at hl 5 rfl) ?_
  refine z_iconst hx hb dL_law_836 ?_
  refine z_iadd hx hb dL_law_837 ?_
  refine lj_rd hx hb hX hbl hJ (by omega) (by omega) (by omega) dL_law_838 ?_
  refine lv_aload_n hx hb dL_law_839 rfl (lv_at hl 0 rfl) ?_
  refine lv_iload hx hb dL_law_840 (lv_at hl 5 rfl) ?_
  refine z_iconst hx hb dL_law_842 ?_
  refine z_iadd hx hb dL_law_843 ?_
  refine lj_rd hx hb hX hbl hJ (by omega) (by omega) (by omega) dL_law_844 ?_
  refine lv_aload_n hx hb dL_law_845 rfl (lv_at hl 3 rfl) ?_
  refine lj_X_i (zHS (As := [.ref (am 0 0), .int (iZ (xi xs (i + 1))), .int (iZ (xi xs (i + 2))), .ref (am 9 0)]) (rest := []) ⟨hx, hb, hml, hown, hts⟩ (c_L_dock l hfl D cX n am S H.size (xi xs (i + 1)) (xi xs (i + 2)) hs0.1.1.1 (xi_R _ _) (xi_R _ _) hs0.1.1.2.2.1 h9) (vx_cwSW 4 hts gL_law_L_dock rfl rfl rfl (by decide +kernel) ⟨Nat.le_of_ble_eq_true rfl, Nat.le_of_ble_eq_true rfl⟩) hKX hG hN hJ rfl hl.1 rfl (Nat.le_of_ble_eq_true rfl) dL_law_846 ⟨by rw [hr.1]; omega, by rw [hr.2]; omega⟩) hJ (fun k u H hk hp hJ => ?_)
  obtain ⟨n1, am1, S1, rfl, hk1, hn1, hO⟩ := op_dock (nM := nM) (amM := amM) hs0 hW hq (xi xs (i + 1)) (xi xs (i + 2)) hp
  clear hp
  have h91 : 0 < n1 9 := Nat.lt_of_lt_of_le h9 (hn1 9)
  replace hl : lv_has ls 9 [(0, .ref b), (1, .ref (am1 0 0)), (2, .ref (amM 0 0)), (3, .ref (am1 9 0)), (4, .ref oD), (5, .int (iZ i))] := by rw [hk1 0 0 hvX, hk1 9 0 h9]; exact hl
  refine lv_istore (lv' := [(6, .int (iZ k)), (0, .ref b), (1, .ref (am1 0 0)), (2, .ref (amM 0 0)), (3, .ref (am1 9 0)), (4, .ref oD), (5, .int (iZ i))]) hx hb dL_law_849 hl (by decide) rfl (fun ls hl => ?_)
  refine lv_aload_n hx hb dL_law_851 rfl (lv_at hl 3 rfl) ?_
  refine lv_aload_n hx hb dL_law_852 rfl (lv_at hl 1 rfl) ?_
  refine lv_iload hx hb dL_law_853 (lv_at hl 6 rfl) ?_
  refine z_iconst hx hb dL_law_855 ?_
  refine z_iadd hx hb dL_law_856 ?_
  refine lj_rd hx hb hX hbl hJ (by omega) (by omega) (by omega) dL_law_857 ?_
  refine lv_aload_n hx hb dL_law_858 rfl (lv_at hl 1 rfl) ?_
  refine lv_iload hx hb dL_law_859 (lv_at hl 6 rfl) ?_
  refine z_iconst hx hb dL_law_861 ?_
  refine z_iadd hx hb dL_law_862 ?_
  refine lj_rd hx hb hX hbl hJ (by omega) (by omega) (by omega) dL_law_863 ?_
  refine lj_M_i (zrV (As := [.int (iZ (xi xs (i + 1))), .int (iZ (xi xs (i + 2)))]) (rest := []) (κ := 0) (i := 0) ⟨hx, hb, hml, hown, hts⟩ (c_X5_dock l D cM nM amM M H.size (xi xs (i + 1)) (xi xs (i + 2)) hW (xi_R _ _) (xi_R _ _) hs0.1.mR) (cwV 2 hts gL_law_X5_dock rfl rfl rfl (by decide +kernel) ⟨Nat.le_of_ble_eq_true rfl, Nat.le_of_ble_eq_true rfl⟩) hKM hJ.IM hv0 rfl rfl rfl hl.1 rfl (Nat.le_of_ble_eq_true rfl) dL_law_864 ⟨by rw [hr.1]; omega, by rw [hr.2]; omega⟩) hJ (fun z w H hz hp hJ => ?_)
  obtain ⟨M1, rfl, hW1, h24, hz0, hs1⟩ := hO _ _ hp
  clear hp hO
  refine lv_istore (lv' := [(7, .int (iZ z)), (6, .int (iZ k)), (0, .ref b), (1, .ref (am1 0 0)), (2, .ref (amM 0 0)), (3, .ref (am1 9 0)), (4, .ref oD), (5, .int (iZ i))]) hx hb dL_law_867 hl (by decide) rfl (fun ls hl => ?_)
  refine lv_aload_n hx hb dL_law_869 rfl (lv_at hl 4 rfl) ?_
  refine lj_M_i (zrV (As := []) (rest := []) (κ := 0) (i := 0) ⟨hx, hb, hml, hown, hts⟩ (c_X5_thrown l D cM nM amM M1 H.size hW1) (cwV 0 hts gL_law_X5_thrown rfl rfl rfl (by decide +kernel) ⟨Nat.le_of_ble_eq_true rfl, Nat.le_of_ble_eq_true rfl⟩) hKM hJ.IM hv0 rfl rfl rfl hl.1 rfl (Nat.le_of_ble_eq_true rfl) dL_law_870 ⟨by rw [hr.1]; omega, by rw [hr.2]; omega⟩) hJ (fun z2 w H hz2 hp hJ => ?_)
  obtain ⟨rfl, rfl⟩ := hp
  refine lv_iload hx hb dL_law_873 (lv_at hl 1 rfl) ?_
  refine z_icmp_eq (tgt := 880) hx hb dL_law_875 (by decide) hz2 hk (fun _ => ?_) (fun hz9 => absurd h24 hz9)
  refine lv_iload hx hb dL_law_880 (lv_at hl 1 rfl) ?_
  refine z_if_ne (tgt := 897) hx hb dL_law_882 (by decide) hk (fun hk0 => ?_) (fun hk0 => ?_)
  · refine lv_goto (tgt := 1699) hx hb dL_law_897 (by decide) ?_
    exact W.widen (by omega) (by omega) (kk _ _ ⟨_, _, _, _, _, _, _, hJ, hs1, hW1, h91, lv_sub hl [2, 3, 4, 5, 6, 7] rfl⟩)
  · refine lv_aload_n hx hb dL_law_885 rfl (lv_at hl 5 rfl) ?_
    refine z_iconst hx hb dL_law_886 ?_
    refine za_l (κ := 9) (i := 0) hx hb hKX hJ.IX h91 rfl (by decide) (by decide) (by decide) dL_law_887 (hz0 hk0) ?_
    refine lv_iload hx hb dL_law_888 (lv_at hl 0 rfl) ?_
    refine z_i2l hx hb dL_law_890 hz ?_
    refine lj_lcmp hx hb dL_law_891 ?_
    refine z_if_eq (tgt := 897) hx hb dL_law_892 (by decide) (by decide) (fun _ => ?_) (fun hz9 => absurd rfl hz9)
    refine lv_goto (tgt := 1699) hx hb dL_law_897 (by decide) ?_
    exact W.widen (by omega) (by omega) (kk _ _ ⟨_, _, _, _, _, _, _, hJ, hs1, hW1, h91, lv_sub hl [2, 3, 4, 5, 6, 7] rfl⟩)
set_option maxHeartbeats 4000000 in
set_option maxRecDepth 100000 in
theorem law_leave {p : Program} {e : Env} {s : State} {m : MethodId} {below : List Frame} {meth : Method} {c : Code} {args : Array Value} {cells slots : Nat} {Q : State → Prop} {H : Heap} {ls : Array Slot} {b L : Nat} {xs : Nat → Int32} {D : va_G} {cX cM : Nat → ClassId} {cD : ClassId} {oD : Nat} {i : Int} {q : Nat} (l : Launch) (hfl : l.stackTraces = false) (hE : lEnv p s m c args b L xs D cX cM cD) (hq : q < 600) (hi : 0 ≤ i ∧ i + 5 ≤ (L : Int) ∧ L ≤ 2560) (h : lInv D cX cM cD oD s b i q H ls) (hc : cells + 8 ≤ 762397) (hs : slots + 40 ≤ 6708562) (kk : ∀ (H : Heap) (ls : Array Slot), lInv D cX cM cD oD s b i (q + 1) H ls → W p l e room_1 s m args below meth c H [] (cells + 8) (slots + 40) Q (F0 m 1699 ls [])) : W p l e room_1 s m args below meth c H [] cells slots Q (F0 m 900 ls []) := by
  obtain ⟨hx, hb, hml, hown, hts, hKX, hKM, hKD, hG, hN, hX, hbl⟩ := hE
  obtain ⟨n, am, S, nM, amM, M, v, hJ, hs0, hW, h9, hl⟩ := h
  have hr : room_1.cells = 762397 ∧ room_1.slots = 6708562 := ⟨rfl, rfl⟩
  have hv0 : 0 < nM 0 := hW.1 0 (by decide)
  have hvX : 0 < n 0 := hs0.1.1.1.1.1
  refine lv_aload_n hx hb dL_law_900 rfl (lv_at hl 1 rfl) ?_
  refine lv_aload_n hx hb dL_law_901 rfl (lv_at hl 0 rfl) ?_
  refine lv_iload hx hb dL_law_902 (lv_at hl 5 rfl) ?_
  refine z_iconst hx hb dL_law_904 ?_
  refine z_iadd hx hb dL_law_905 ?_
  refine lj_rd hx hb hX hbl hJ (by omega) (by omega) (by omega) dL_law_906 ?_
  refine lv_aload_n hx hb dL_law_907 rfl (lv_at hl 3 rfl) ?_
  refine lj_X_i (zHS (As := [.ref (am 0 0), .int (iZ (xi xs (i + 1))), .ref (am 9 0)]) (rest := []) ⟨hx, hb, hml, hown, hts⟩ (c_L_leave l hfl D cX n am S H.size (xi xs (i + 1)) hs0.1.1.1 (xi_R _ _) hs0.1.1.2.2.1 h9) (vx_cwSW 3 hts gL_law_L_leave rfl rfl rfl (by decide +kernel) ⟨Nat.le_of_ble_eq_true rfl, Nat.le_of_ble_eq_true rfl⟩) hKX hG hN hJ rfl hl.1 rfl (Nat.le_of_ble_eq_true rfl) dL_law_908 ⟨by rw [hr.1]; omega, by rw [hr.2]; omega⟩) hJ (fun k u H hk hp hJ => ?_)
  obtain ⟨n1, am1, S1, rfl, hk1, hn1, hO⟩ := op_leave (nM := nM) (amM := amM) hs0 hW hq (xi xs (i + 1)) hp
  clear hp
  have h91 : 0 < n1 9 := Nat.lt_of_lt_of_le h9 (hn1 9)
  replace hl : lv_has ls 9 [(0, .ref b), (1, .ref (am1 0 0)), (2, .ref (amM 0 0)), (3, .ref (am1 9 0)), (4, .ref oD), (5, .int (iZ i))] := by rw [hk1 0 0 hvX, hk1 9 0 h9]; exact hl
  refine lv_istore (lv' := [(6, .int (iZ k)), (0, .ref b), (1, .ref (am1 0 0)), (2, .ref (amM 0 0)), (3, .ref (am1 9 0)), (4, .ref oD), (5, .int (iZ i))]) hx hb dL_law_911 hl (by decide) rfl (fun ls hl => ?_)
  refine lv_aload_n hx hb dL_law_913 rfl (lv_at hl 3 rfl) ?_
  refine lv_aload_n hx hb dL_law_914 rfl (lv_at hl 1 rfl) ?_
  refine lv_iload hx hb dL_law_915 (lv_at hl 6 rfl) ?_
  refine z_iconst hx hb dL_law_917 ?_
  refine z_iadd hx hb dL_law_918 ?_
  refine lj_rd hx hb hX hbl hJ (by omega) (by omega) (by omega) dL_law_919 ?_
  refine lj_M_i (zrV (As := [.int (iZ (xi xs (i + 1)))]) (rest := []) (κ := 0) (i := 0) ⟨hx, hb, hml, hown, hts⟩ (c_X5_leave l D cM nM amM M H.size (xi xs (i + 1)) hW (xi_R _ _) hs0.1.mR) (cwV 1 hts gL_law_X5_leave rfl rfl rfl (by decide +kernel) ⟨Nat.le_of_ble_eq_true rfl, Nat.le_of_ble_eq_true rfl⟩) hKM hJ.IM hv0 rfl rfl rfl hl.1 rfl (Nat.le_of_ble_eq_true rfl) dL_law_920 ⟨by rw [hr.1]; omega, by rw [hr.2]; omega⟩) hJ (fun z w H hz hp hJ => ?_)
  obtain ⟨M1, rfl, hW1, h24, hz0, hs1⟩ := hO _ _ hp
  clear hp hO
  refine lv_istore (lv' := [(7, .int (iZ z)), (6, .int (iZ k)), (0, .ref b), (1, .ref (am1 0 0)), (2, .ref (amM 0 0)), (3, .ref (am1 9 0)), (4, .ref oD), (5, .int (iZ i))]) hx hb dL_law_923 hl (by decide) rfl (fun ls hl => ?_)
  refine lv_aload_n hx hb dL_law_925 rfl (lv_at hl 4 rfl) ?_
  refine lj_M_i (zrV (As := []) (rest := []) (κ := 0) (i := 0) ⟨hx, hb, hml, hown, hts⟩ (c_X5_thrown l D cM nM amM M1 H.size hW1) (cwV 0 hts gL_law_X5_thrown rfl rfl rfl (by decide +kernel) ⟨Nat.le_of_ble_eq_true rfl, Nat.le_of_ble_eq_true rfl⟩) hKM hJ.IM hv0 rfl rfl rfl hl.1 rfl (Nat.le_of_ble_eq_true rfl) dL_law_926 ⟨by rw [hr.1]; omega, by rw [hr.2]; omega⟩) hJ (fun z2 w H hz2 hp hJ => ?_)
  obtain ⟨rfl, rfl⟩ := hp
  refine lv_iload hx hb dL_law_929 (lv_at hl 1 rfl) ?_
  refine z_icmp_eq (tgt := 936) hx hb dL_law_931 (by decide) hz2 hk (fun _ => ?_) (fun hz9 => absurd h24 hz9)
  refine lv_iload hx hb dL_law_936 (lv_at hl 1 rfl) ?_
  refine z_if_ne (tgt := 953) hx hb dL_law_938 (by decide) hk (fun hk0 => ?_) (fun hk0 => ?_)
  · refine lv_goto (tgt := 1699) hx hb dL_law_953 (by decide) ?_
    exact W.widen (by omega) (by omega) (kk _ _ ⟨_, _, _, _, _, _, _, hJ, hs1, hW1, h91, lv_sub hl [2, 3, 4, 5, 6, 7] rfl⟩)
  · refine lv_aload_n hx hb dL_law_941 rfl (lv_at hl 5 rfl) ?_
    refine z_iconst hx hb dL_law_942 ?_
    refine za_l (κ := 9) (i := 0) hx hb hKX hJ.IX h91 rfl (by decide) (by decide) (by decide) dL_law_943 (hz0 hk0) ?_
    refine lv_iload hx hb dL_law_944 (lv_at hl 0 rfl) ?_
    refine z_i2l hx hb dL_law_946 hz ?_
    refine lj_lcmp hx hb dL_law_947 ?_
    refine z_if_eq (tgt := 953) hx hb dL_law_948 (by decide) (by decide) (fun _ => ?_) (fun hz9 => absurd rfl hz9)
    refine lv_goto (tgt := 1699) hx hb dL_law_953 (by decide) ?_
    exact W.widen (by omega) (by omega) (kk _ _ ⟨_, _, _, _, _, _, _, hJ, hs1, hW1, h91, lv_sub hl [2, 3, 4, 5, 6, 7] rfl⟩)
