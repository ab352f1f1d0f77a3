/-! The model's fewest moves. -/
set_option maxHeartbeats 4000000 in
set_option maxRecDepth 100000 in
theorem c_X5_fewest (l : Launch) (D : va_G) (cA : Nat → ClassId) (n : Nat → Nat) (am : ts_Am) (S : ts_St) (sz : Nat) (t : Int) (hW : mW n S) (ht0 : iR t) (hR : mR S) (hys : ∀ t : Int, 0 ≤ t → t < S 0 0 8 → S 12 0 t.toNat = 121 → 0 ≤ mSlot S t) (hLv : mLv S) : Met l yX5_fewest wsX5_fewest ({ frames := 11, cells := 0, slots := 0, locals := 274 } : Room) (va_Pc [.ref (am 0 0), .int (iZ t)] (zP TM D cA (n, am, S) sz)) (zQi TM D cA (n, am, S) sz (fun z u => (¬ kElse S t = 0 ∧ u = (n, am, up3 S 0 0 24 (kElse S t))) ∨ (kElse S t = 0 ∧ ∃ S9, mEq (m0 S 0) S9 ∧ ((∃ d : Nat, d ≤ 4 ∧ mRch d (m0 S 0) t ∧ (∀ q, q < d → ¬ mRch q (m0 S 0) t) ∧ z = (d : Int) ∧ u = (n, am, S9)) ∨ ((∀ d, d ≤ 4 → ¬ mRch d (m0 S 0) t) ∧ u = (n, am, m0 S9 3)))))) 0 0 (ts_A (n, am, S) sz) := by
  refine zM_of (by decide) rfl (Nat.le_of_ble_eq_true rfl) ?_
  intro p e s m below meth c hx hb hr hts hown hlocks hml hname hK hsz H locs hI ls hl
  subst hsz
  have hown : s.vm.findClass RX5 = some m.cls := hown
  have hl : lv_has ls 3 [(0, .ref (am 0 0)), (1, .int (iZ t))] := hl
  have f67 := hts (.fieldLink RX5 67 "DockyardSlotsModel" "code" "I") (by decide +kernel)
  have LX5 : ∀ w ∈ wsX50, w.before [.ref (am 0 0), .int (iZ t)].toArray s = true := fun w h => hts w (List.mem_cons_of_mem _ (List.mem_append_left _ (List.mem_append_right _ h)))
  have hR1 := hR.1
  have hK0 := kElse_0 S t
  refine lv_aload_n hx hb dX5_fewest_0 rfl (lv_at hl 0 rfl) ?_
  refine lv_iload_n hx hb dX5_fewest_1 rfl (lv_at hl 1 rfl) ?_
  refine zc_i (zrV (As := [.int (iZ t)]) (rest := []) (κ := 0) (i := 0) ⟨hx, hb, hml, hown, hts⟩ (c_X5_isElsewhere l D cA n am S H.size t hW (by omega) hR) (cwV 1 hts gX5_fewest_X5_isElsewhere rfl rfl rfl (by decide +kernel) ⟨Nat.le_of_ble_eq_true rfl, Nat.le_of_ble_eq_true rfl⟩) hK hI (hW.1 0 (by decide)) rfl rfl rfl hl.1 rfl (Nat.le_of_ble_eq_true rfl) dX5_fewest_2 ⟨Nat.le_of_ble_eq_true rfl, Nat.le_of_ble_eq_true rfl⟩) hI (fun z1 u9 H locs hz2 hp3 hI hfr => ?_)
  clear hfr
  obtain ⟨rfl, rfl⟩ := hp3
  obtain ⟨S4, eS4⟩ : ∃ z, z = up3 S 0 0 24 (kElse S t) := ⟨_, rfl⟩
  rw [← eS4] at hI
  have hW : mW n S4 := by rw [eS4]; exact hW.put rfl
  refine z_if_eq (tgt := 10) hx hb dX5_fewest_5 (by decide) (by omega) (fun c5 => ?_) (fun c5 => ?_)
  · skip
    have c5 := zB_0 c5
    have hK0 := kElse_0 S t
    have hin := kElse_in (S := S) (t := t) (by omega)
    have hS : S4 = m0 S 0 := by rw [eS4, show kElse S t = 0 by omega]
    rw [hS] at hI hW
    have hIv0 : mIv (m0 S 0) t := ⟨hR.put (by unfold mRv; omega), hLv, by rw [mSlot_m0]; exact hys t hin.1.1 hin.1.2 hin.2⟩
    have heq0 := mEq.rfl' (m0 S 0)
    refine z_iconst hx hb dX5_fewest_10 ?_
    refine lv_istore_n (lv' := [(2, .int (iZ 0)), (0, .ref (am 0 0)), (1, .int (iZ t))]) hx hb dX5_fewest_11 rfl hl (by decide) rfl (fun ls hl => ?_)
    refine lv_iload_n hx hb dX5_fewest_12 rfl (lv_at hl 0 rfl) ?_
    refine z_iconst hx hb dX5_fewest_13 ?_
    refine z_icmp_gt (tgt := 34) hx hb dX5_fewest_14 (by decide) (by omega) (by omega) (fun c6 => ?_) (fun c6 => ?_)
    · skip
      omega
    · skip
      have hIvk := heq0.Iv hIv0
      refine lv_aload_n hx hb dX5_fewest_17 rfl (lv_at hl 1 rfl) ?_
      refine lv_iload_n hx hb dX5_fewest_18 rfl (lv_at hl 2 rfl) ?_
      refine lv_iload_n hx hb dX5_fewest_19 rfl (lv_at hl 0 rfl) ?_
      refine zc_i (zrV (As := [.int (iZ t), .int (iZ 0)]) (rest := []) (κ := 0) (i := 0) ⟨hx, hb, hml, hown, hts⟩ (c_X5_isReachedWith_0 l D cA n am (m0 S 0) H.size t 0 hW (by omega) hIvk (by omega)) (cwV 2 hts gX5_fewest_X5_isReachedWith rfl rfl rfl (by decide +kernel) ⟨Nat.le_of_ble_eq_true rfl, Nat.le_of_ble_eq_true rfl⟩) hK hI (hW.1 0 (by decide)) rfl rfl rfl hl.1 rfl (Nat.le_of_ble_eq_true rfl) dX5_fewest_20 ⟨Nat.le_of_ble_eq_true rfl, Nat.le_of_ble_eq_true rfl⟩) hI (fun z7 u9 H locs hz8 hp9 hI hfr => ?_)
      clear hfr
      obtain ⟨S10, rfl, hS10, rfl⟩ := hp9
      have hW : mW n S10 := hS10.W hW
      have heq1 := heq0.trans hS10
      refine z_if_eq (tgt := 28) hx hb dX5_fewest_23 (by decide) (by omega) (fun c11 => ?_) (fun c11 => ?_)
      · skip
        have c11 := zB_0 c11
        have hn0 : ¬ mRch 0 (m0 S 0) t := fun q => c11 ((mRch_eq 0 heq0 hIv0).mpr q)
        refine z_iinc (k := 0) (lv' := [(2, .int (iZ (0 + 1))), (0, .ref (am 0 0)), (1, .int (iZ t))]) hx hb dX5_fewest_28 hl rfl (by decide) rfl (fun ls hl => ?_)
        refine lv_goto (tgt := 12) hx hb dX5_fewest_31 (by decide) ?_
        refine lv_iload_n hx hb dX5_fewest_12 rfl (lv_at hl 0 rfl) ?_
        refine z_iconst hx hb dX5_fewest_13 ?_
        refine z_icmp_gt (tgt := 34) hx hb dX5_fewest_14 (by decide) (by omega) (by omega) (fun c12 => ?_) (fun c12 => ?_)
        · skip
          omega
        · skip
          have hIvk := heq1.Iv hIv0
          refine lv_aload_n hx hb dX5_fewest_17 rfl (lv_at hl 1 rfl) ?_
          refine lv_iload_n hx hb dX5_fewest_18 rfl (lv_at hl 2 rfl) ?_
          refine lv_iload_n hx hb dX5_fewest_19 rfl (lv_at hl 0 rfl) ?_
          refine zc_i (zrV (As := [.int (iZ t), .int (iZ (0 + 1))]) (rest := []) (κ := 0) (i := 0) ⟨hx, hb, hml, hown, hts⟩ (c_X5_isReachedWith_1 l D cA n am S10 H.size t (0 + 1) hW (by omega) hIvk (by omega)) (cwV 2 hts gX5_fewest_X5_isReachedWith rfl rfl rfl (by decide +kernel) ⟨Nat.le_of_ble_eq_true rfl, Nat.le_of_ble_eq_true rfl⟩) hK hI (hW.1 0 (by decide)) rfl rfl rfl hl.1 rfl (Nat.le_of_ble_eq_true rfl) dX5_fewest_20 ⟨Nat.le_of_ble_eq_true rfl, Nat.le_of_ble_eq_true rfl⟩) hI (fun z13 u9 H locs hz14 hp15 hI hfr => ?_)
          clear hfr
          obtain ⟨S16, rfl, hS16, rfl⟩ := hp15
          have hW : mW n S16 := hS16.W hW
          have heq2 := heq1.trans hS16
          refine z_if_eq (tgt := 28) hx hb dX5_fewest_23 (by decide) (by omega) (fun c17 => ?_) (fun c17 => ?_)
          · skip
            have c17 := zB_0 c17
            have hn1 : ¬ mRch 1 (m0 S 0) t := fun q => c17 ((mRch_eq 1 heq1 hIv0).mpr q)
            refine z_iinc (k := 0) (lv' := [(2, .int (iZ ((0 + 1) + 1))), (0, .ref (am 0 0)), (1, .int (iZ t))]) hx hb dX5_fewest_28 hl rfl (by decide) rfl (fun ls hl => ?_)
            refine lv_goto (tgt := 12) hx hb dX5_fewest_31 (by decide) ?_
            refine lv_iload_n hx hb dX5_fewest_12 rfl (lv_at hl 0 rfl) ?_
            refine z_iconst hx hb dX5_fewest_13 ?_
            refine z_icmp_gt (tgt := 34) hx hb dX5_fewest_14 (by decide) (by omega) (by omega) (fun c18 => ?_) (fun c18 => ?_)
            · skip
              omega
            · skip
              have hIvk := heq2.Iv hIv0
              refine lv_aload_n hx hb dX5_fewest_17 rfl (lv_at hl 1 rfl) ?_
              refine lv_iload_n hx hb dX5_fewest_18 rfl (lv_at hl 2 rfl) ?_
              refine lv_iload_n hx hb dX5_fewest_19 rfl (lv_at hl 0 rfl) ?_
              refine zc_i (zrV (As := [.int (iZ t), .int (iZ ((0 + 1) + 1))]) (rest := []) (κ := 0) (i := 0) ⟨hx, hb, hml, hown, hts⟩ (c_X5_isReachedWith_2 l D cA n am S16 H.size t ((0 + 1) + 1) hW (by omega) hIvk (by omega)) (cwV 2 hts gX5_fewest_X5_isReachedWith rfl rfl rfl (by decide +kernel) ⟨Nat.le_of_ble_eq_true rfl, Nat.le_of_ble_eq_true rfl⟩) hK hI (hW.1 0 (by decide)) rfl rfl rfl hl.1 rfl (Nat.le_of_ble_eq_true rfl) dX5_fewest_20 ⟨Nat.le_of_ble_eq_true rfl, Nat.le_of_ble_eq_true rfl⟩) hI (fun z19 u9 H locs hz20 hp21 hI hfr => ?_)
              clear hfr
              obtain ⟨S22, rfl, hS22, rfl⟩ := hp21
              have hW : mW n S22 := hS22.W hW
              have heq3 := heq2.trans hS22
              refine z_if_eq (tgt := 28) hx hb dX5_fewest_23 (by decide) (by omega) (fun c23 => ?_) (fun c23 => ?_)
              · skip
                have c23 := zB_0 c23
                have hn2 : ¬ mRch 2 (m0 S 0) t := fun q => c23 ((mRch_eq 2 heq2 hIv0).mpr q)
                refine z_iinc (k := 0) (lv' := [(2, .int (iZ (((0 + 1) + 1) + 1))), (0, .ref (am 0 0)), (1, .int (iZ t))]) hx hb dX5_fewest_28 hl rfl (by decide) rfl (fun ls hl => ?_)
                refine lv_goto (tgt := 12) hx hb dX5_fewest_31 (by decide) ?_
                refine lv_iload_n hx hb dX5_fewest_12 rfl (lv_at hl 0 rfl) ?_
                refine z_iconst hx hb dX5_fewest_13 ?_
                refine z_icmp_gt (tgt := 34) hx hb dX5_fewest_14 (by decide) (by omega) (by omega) (fun c24 => ?_) (fun c24 => ?_)
                · skip
                  omega
                · skip
                  have hIvk := heq3.Iv hIv0
                  refine lv_aload_n hx hb dX5_fewest_17 rfl (lv_at hl 1 rfl) ?_
                  refine lv_iload_n hx hb dX5_fewest_18 rfl (lv_at hl 2 rfl) ?_
                  refine lv_iload_n hx hb dX5_fewest_19 rfl (lv_at hl 0 rfl) ?_
                  refine zc_i (zrV (As := [.int (iZ t), .int (iZ (((0 + 1) + 1) + 1))]) (rest := []) (κ := 0) (i := 0) ⟨hx, hb, hml, hown, hts⟩ (c_X5_isReachedWith_3 l D cA n am S22 H.size t (((0 + 1) + 1) + 1) hW (by omega) hIvk (by omega)) (cwV 2 hts gX5_fewest_X5_isReachedWith rfl rfl rfl (by decide +kernel) ⟨Nat.le_of_ble_eq_true rfl, Nat.le_of_ble_eq_true rfl⟩) hK hI (hW.1 0 (by decide)) rfl rfl rfl hl.1 rfl (Nat.le_of_ble_eq_true rfl) dX5_fewest_20 ⟨Nat.le_of_ble_eq_true rfl, Nat.le_of_ble_eq_true rfl⟩) hI (fun z25 u9 H locs hz26 hp27 hI hfr => ?_)
                  clear hfr
                  obtain ⟨S28, rfl, hS28, rfl⟩ := hp27
                  have hW : mW n S28 := hS28.W hW
                  have heq4 := heq3.trans hS28
                  refine z_if_eq (tgt := 28) hx hb dX5_fewest_23 (by decide) (by omega) (fun c29 => ?_) (fun c29 => ?_)
                  · skip
                    have c29 := zB_0 c29
                    have hn3 : ¬ mRch 3 (m0 S 0) t := fun q => c29 ((mRch_eq 3 heq3 hIv0).mpr q)
                    refine z_iinc (k := 0) (lv' := [(2, .int (iZ ((((0 + 1) + 1) + 1) + 1))), (0, .ref (am 0 0)), (1, .int (iZ t))]) hx hb dX5_fewest_28 hl rfl (by decide) rfl (fun ls hl => ?_)
                    refine lv_goto (tgt := 12) hx hb dX5_fewest_31 (by decide) ?_
                    refine lv_iload_n hx hb dX5_fewest_12 rfl (lv_at hl 0 rfl) ?_
                    refine z_iconst hx hb dX5_fewest_13 ?_
                    refine z_icmp_gt (tgt := 34) hx hb dX5_fewest_14 (by decide) (by omega) (by omega) (fun c30 => ?_) (fun c30 => ?_)
                    · skip
                      omega
                    · skip
                      have hIvk := heq4.Iv hIv0
                      refine lv_aload_n hx hb dX5_fewest_17 rfl (lv_at hl 1 rfl) ?_
                      refine lv_iload_n hx hb dX5_fewest_18 rfl (lv_at hl 2 rfl) ?_
                      refine lv_iload_n hx hb dX5_fewest_19 rfl (lv_at hl 0 rfl) ?_
                      refine zc_i (zrV (As := [.int (iZ t), .int (iZ ((((0 + 1) + 1) + 1) + 1))]) (rest := []) (κ := 0) (i := 0) ⟨hx, hb, hml, hown, hts⟩ (c_X5_isReachedWith_4 l D cA n am S28 H.size t ((((0 + 1) + 1) + 1) + 1) hW (by omega) hIvk (by omega)) (cwV 2 hts gX5_fewest_X5_isReachedWith rfl rfl rfl (by decide +kernel) ⟨Nat.le_of_ble_eq_true rfl, Nat.le_of_ble_eq_true rfl⟩) hK hI (hW.1 0 (by decide)) rfl rfl rfl hl.1 rfl (Nat.le_of_ble_eq_true rfl) dX5_fewest_20 ⟨Nat.le_of_ble_eq_true rfl, Nat.le_of_ble_eq_true rfl⟩) hI (fun z31 u9 H locs hz32 hp33 hI hfr => ?_)
                      clear hfr
                      obtain ⟨S34, rfl, hS34, rfl⟩ := hp33
                      have hW : mW n S34 := hS34.W hW
                      have heq5 := heq4.trans hS34
                      refine z_if_eq (tgt := 28) hx hb dX5_fewest_23 (by decide) (by omega) (fun c35 => ?_) (fun c35 => ?_)
                      · skip
                        have c35 := zB_0 c35
                        have hn4 : ¬ mRch 4 (m0 S 0) t := fun q => c35 ((mRch_eq 4 heq4 hIv0).mpr q)
                        refine z_iinc (k := 0) (lv' := [(2, .int (iZ (((((0 + 1) + 1) + 1) + 1) + 1))), (0, .ref (am 0 0)), (1, .int (iZ t))]) hx hb dX5_fewest_28 hl rfl (by decide) rfl (fun ls hl => ?_)
                        refine lv_goto (tgt := 12) hx hb dX5_fewest_31 (by decide) ?_
                        refine lv_iload_n hx hb dX5_fewest_12 rfl (lv_at hl 0 rfl) ?_
                        refine z_iconst hx hb dX5_fewest_13 ?_
                        refine z_icmp_gt (tgt := 34) hx hb dX5_fewest_14 (by decide) (by omega) (by omega) (fun c36 => ?_) (fun c36 => ?_)
                        · skip
                          refine lv_aload_n hx hb dX5_fewest_34 rfl (lv_at hl 1 rfl) ?_
                          refine z_iconst hx hb dX5_fewest_35 ?_
                          refine zp_i (κ := 0) (i := 0) (k := 24) hx hb LX5 tyX5 tyX5_ok nmX5 hown hK hI (hW.1 0 (by decide)) rfl rfl (by decide) rfl f67 (fun _ h9 => h9) rfl rfl rfl (by omega) dX5_fewest_36 (fun H locs hI => ?_)
                          obtain ⟨S37, eS37⟩ : ∃ z, z = up3 S34 0 0 24 3 := ⟨_, rfl⟩
                          rw [← eS37] at hI
                          have hW : mW n S37 := by rw [eS37]; exact hW.put rfl
                          refine z_iconst hx hb dX5_fewest_39 ?_
                          exact (ze_i (u' := (n, am, S37)) (z := 0) hx hb hr rfl hI (by omega) (Or.inr ⟨by omega, S34, heq5, Or.inr ⟨fun q hq => by rcases (show q = 0 ∨ q = 1 ∨ q = 2 ∨ q = 3 ∨ q = 4 by omega) with rfl | rfl | rfl | rfl | rfl <;> assumption, by rw [eS37]⟩⟩) (Nat.le_of_ble_eq_true rfl) (Nat.le_of_ble_eq_true rfl) dX5_fewest_40 hlocks)
                        · skip
                          omega
                      · skip
                        have c35 := zB_1 c35
                        refine lv_iload_n hx hb dX5_fewest_26 rfl (lv_at hl 0 rfl) ?_
                        exact (ze_i (u' := (n, am, S34)) (z := ((((0 + 1) + 1) + 1) + 1)) hx hb hr rfl hI (by omega) (Or.inr ⟨by omega, S34, heq5, Or.inl ⟨4, by decide, (mRch_eq 4 heq4 hIv0).mp c35, fun q hq => by rcases (show q = 0 ∨ q = 1 ∨ q = 2 ∨ q = 3 by omega) with rfl | rfl | rfl | rfl <;> assumption, rfl, rfl⟩⟩) (Nat.le_of_ble_eq_true rfl) (Nat.le_of_ble_eq_true rfl) dX5_fewest_27 hlocks)
                  · skip
                    have c29 := zB_1 c29
                    refine lv_iload_n hx hb dX5_fewest_26 rfl (lv_at hl 0 rfl) ?_
                    exact (ze_i (u' := (n, am, S28)) (z := (((0 + 1) + 1) + 1)) hx hb hr rfl hI (by omega) (Or.inr ⟨by omega, S28, heq4, Or.inl ⟨3, by decide, (mRch_eq 3 heq3 hIv0).mp c29, fun q hq => by rcases (show q = 0 ∨ q = 1 ∨ q = 2 by omega) with rfl | rfl | rfl <;> assumption, rfl, rfl⟩⟩) (Nat.le_of_ble_eq_true rfl) (Nat.le_of_ble_eq_true rfl) dX5_fewest_27 hlocks)
              · skip
                have c23 := zB_1 c23
                refine lv_iload_n hx hb dX5_fewest_26 rfl (lv_at hl 0 rfl) ?_
                exact (ze_i (u' := (n, am, S22)) (z := ((0 + 1) + 1)) hx hb hr rfl hI (by omega) (Or.inr ⟨by omega, S22, heq3, Or.inl ⟨2, by decide, (mRch_eq 2 heq2 hIv0).mp c23, fun q hq => by rcases (show q = 0 ∨ q = 1 by omega) with rfl | rfl <;> assumption, rfl, rfl⟩⟩) (Nat.le_of_ble_eq_true rfl) (Nat.le_of_ble_eq_true rfl) dX5_fewest_27 hlocks)
          · skip
            have c17 := zB_1 c17
            refine lv_iload_n hx hb dX5_fewest_26 rfl (lv_at hl 0 rfl) ?_
            exact (ze_i (u' := (n, am, S16)) (z := (0 + 1)) hx hb hr rfl hI (by omega) (Or.inr ⟨by omega, S16, heq2, Or.inl ⟨1, by decide, (mRch_eq 1 heq1 hIv0).mp c17, fun q hq => by rcases (show q = 0 by omega) with rfl <;> assumption, rfl, rfl⟩⟩) (Nat.le_of_ble_eq_true rfl) (Nat.le_of_ble_eq_true rfl) dX5_fewest_27 hlocks)
      · skip
        have c11 := zB_1 c11
        refine lv_iload_n hx hb dX5_fewest_26 rfl (lv_at hl 0 rfl) ?_
        exact (ze_i (u' := (n, am, S10)) (z := 0) hx hb hr rfl hI (by omega) (Or.inr ⟨by omega, S10, heq1, Or.inl ⟨0, by decide, (mRch_eq 0 heq0 hIv0).mp c11, fun q hq => absurd hq (Nat.not_lt_zero q), rfl, rfl⟩⟩) (Nat.le_of_ble_eq_true rfl) (Nat.le_of_ble_eq_true rfl) dX5_fewest_27 hlocks)
  · skip
    have c5 := zB_1 c5
    refine z_iconst hx hb dX5_fewest_8 ?_
    exact (ze_i (u' := (n, am, S4)) (z := 0) hx hb hr rfl hI (by omega) (Or.inl ⟨by omega, by rw [eS4]⟩) (Nat.le_of_ble_eq_true rfl) (Nat.le_of_ble_eq_true rfl) dX5_fewest_9 hlocks)
set_option maxHeartbeats 4000000 in
set_option maxRecDepth 100000 in
theorem c_X5_fewestMoves (l : Launch) (D : va_G) (cA : Nat → ClassId) (n : Nat → Nat) (am : ts_Am) (S : ts_St) (sz : Nat) (t : Int) (hW : mW n S) (ht0 : iR t) (hR : mR S) (hys : ∀ t : Int, 0 ≤ t → t < S 0 0 8 → S 12 0 t.toNat = 121 → 0 ≤ mSlot S t) (hLv : mLv S) : Met l yX5_fewestMoves wsX5_fewestMoves ({ frames := 12, cells := 0, slots := 0, locals := 296 } : Room) (va_Pc [.ref (am 0 0), .int (iZ t)] (zP TM D cA (n, am, S) sz)) (zQi TM D cA (n, am, S) sz (fun z u => (¬ kElse S t = 0 ∧ u = (n, am, up3 S 0 0 24 (kElse S t))) ∨ (kElse S t = 0 ∧ ∃ S9, mEq (m0 S 0) S9 ∧ ((∃ d : Nat, d ≤ 4 ∧ mRch d (m0 S 0) t ∧ (∀ q, q < d → ¬ mRch q (m0 S 0) t) ∧ z = (d : Int) ∧ u = (n, am, S9)) ∨ ((∀ d, d ≤ 4 → ¬ mRch d (m0 S 0) t) ∧ u = (n, am, m0 S9 3)))))) 0 0 (ts_A (n, am, S) sz) := by
  refine zM_of (by decide) rfl (Nat.le_of_ble_eq_true rfl) ?_
  intro p e s m below meth c hx hb hr hts hown hlocks hml hname hK hsz H locs hI ls hl
  subst hsz
  have hown : s.vm.findClass RX5 = some m.cls := hown
  have hl : lv_has ls 2 [(0, .ref (am 0 0)), (1, .int (iZ t))] := hl
  have hR1 := hR.1
  refine lv_aload_n hx hb dX5_fewestMoves_0 rfl (lv_at hl 0 rfl) ?_
  refine lv_iload_n hx hb dX5_fewestMoves_1 rfl (lv_at hl 1 rfl) ?_
  refine zc_i (zrV (As := [.int (iZ t)]) (rest := []) (κ := 0) (i := 0) ⟨hx, hb, hml, hown, hts⟩ (c_X5_fewest l D cA n am S H.size t hW (by omega) hR hys hLv) (cwV 1 hts gX5_fewestMoves_X5_fewest rfl rfl rfl (by decide +kernel) ⟨Nat.le_of_ble_eq_true rfl, Nat.le_of_ble_eq_true rfl⟩) hK hI (hW.1 0 (by decide)) rfl rfl rfl hl.1 rfl (Nat.le_of_ble_eq_true rfl) dX5_fewestMoves_2 ⟨Nat.le_of_ble_eq_true rfl, Nat.le_of_ble_eq_true rfl⟩) hI (fun z1 u9 H locs hz2 hp3 hI hfr => ?_)
  clear hfr
  obtain ⟨n9, am9, S4⟩ := u9
  exact (ze_i (u' := (n9, am9, S4)) (z := z1) hx hb hr rfl hI (by omega) hp3 (Nat.le_of_ble_eq_true rfl) (Nat.le_of_ble_eq_true rfl) dX5_fewestMoves_5 hlocks)
set_option maxHeartbeats 4000000 in
set_option maxRecDepth 100000 in
theorem c_X5_fewestByOrders (l : Launch) (D : va_G) (cA : Nat → ClassId) (n : Nat → Nat) (am : ts_Am) (S : ts_St) (sz : Nat) (t : Int) (hW : mW n S) (ht0 : iR t) (hR : mR S) (hys : ∀ t : Int, 0 ≤ t → t < S 0 0 8 → S 12 0 t.toNat = 121 → 0 ≤ mSlot S t) (hLv : mLv S) : Met l yX5_fewestByOrders wsX5_fewestByOrders ({ frames := 12, cells := 0, slots := 0, locals := 296 } : Room) (va_Pc [.ref (am 0 0), .int (iZ t)] (zP TM D cA (n, am, S) sz)) (zQi TM D cA (n, am, S) sz (fun z u => (¬ kElse S t = 0 ∧ u = (n, am, up3 S 0 0 24 (kElse S t))) ∨ (kElse S t = 0 ∧ ∃ S9, mEq (m0 S 0) S9 ∧ ((∃ d : Nat, d ≤ 4 ∧ mRch d (m0 S 0) t ∧ (∀ q, q < d → ¬ mRch q (m0 S 0) t) ∧ z = (d : Int) ∧ u = (n, am, S9)) ∨ ((∀ d, d ≤ 4 → ¬ mRch d (m0 S 0) t) ∧ u = (n, am, m0 S9 3)))))) 0 0 (ts_A (n, am, S) sz) := by
  refine zM_of (by decide) rfl (Nat.le_of_ble_eq_true rfl) ?_
  intro p e s m below meth c hx hb hr hts hown hlocks hml hname hK hsz H locs hI ls hl
  subst hsz
  have hown : s.vm.findClass RX5 = some m.cls := hown
  have hl : lv_has ls 2 [(0, .ref (am 0 0)), (1, .int (iZ t))] := hl
  have hR1 := hR.1
  refine lv_aload_n hx hb dX5_fewestByOrders_0 rfl (lv_at hl 0 rfl) ?_
  refine lv_iload_n hx hb dX5_fewestByOrders_1 rfl (lv_at hl 1 rfl) ?_
  refine zc_i (zrV (As := [.int (iZ t)]) (rest := []) (κ := 0) (i := 0) ⟨hx, hb, hml, hown, hts⟩ (c_X5_fewest l D cA n am S H.size t hW (by omega) hR hys hLv) (cwV 1 hts gX5_fewestByOrders_X5_fewest rfl rfl rfl (by decide +kernel) ⟨Nat.le_of_ble_eq_true rfl, Nat.le_of_ble_eq_true rfl⟩) hK hI (hW.1 0 (by decide)) rfl rfl rfl hl.1 rfl (Nat.le_of_ble_eq_true rfl) dX5_fewestByOrders_2 ⟨Nat.le_of_ble_eq_true rfl, Nat.le_of_ble_eq_true rfl⟩) hI (fun z1 u9 H locs hz2 hp3 hI hfr => ?_)
  clear hfr
  obtain ⟨n9, am9, S4⟩ := u9
  exact (ze_i (u' := (n9, am9, S4)) (z := z1) hx hb hr rfl hI (by omega) hp3 (Nat.le_of_ble_eq_true rfl) (Nat.le_of_ble_eq_true rfl) dX5_fewestByOrders_5 hlocks)
