/-! The model's search, walked. -/
set_option maxHeartbeats 4000000 in
set_option maxRecDepth 100000 in
theorem c_X5_isReachedWith_0 (l : Launch) (D : va_G) (cA : Nat → ClassId) (n : Nat → Nat) (am : ts_Am) (S : ts_St) (sz : Nat) (t v : Int) (hW : mW n S) (ht0 : 0 ≤ t ∧ t < 40) (hIv : mIv S t) (hv : v = 0) : Met l yX5_isReachedWith wsX5_isReachedWith ({ frames := 2, cells := 0, slots := 0, locals := 45 } : Room) (va_Pc [.ref (am 0 0), .int (iZ t), .int (iZ v)] (zP TM D cA (n, am, S) sz)) (zQi TM D cA (n, am, S) sz (fun z u => ∃ S9, u = (n, am, S9) ∧ mEq S S9 ∧ z = zB (mRch 0 S t))) 0 0 (ts_A (n, am, S) sz) := by
  refine zM_of (by decide) rfl (Nat.le_of_ble_eq_true rfl) ?_
  intro p e s m below meth c hx hb hr hts hown hlocks hml hname hK hsz H locs hI ls hl
  subst hsz
  have hown : s.vm.findClass RX5 = some m.cls := hown
  have hl : lv_has ls 6 [(0, .ref (am 0 0)), (1, .int (iZ t)), (2, .int (iZ v))] := hl
  have hlc := hIv.1.1.1
  have hsr := mSlot_R (S := S) (t := t) hlc.2 hIv.1.2.1
  have hsi := hIv.2.2
  have hahR := mAhead_R hIv.1.2.1 hIv.2.2
  refine lv_aload_n hx hb dX5_isReachedWith_0 rfl (lv_at hl 0 rfl) ?_
  refine lv_iload_n hx hb dX5_isReachedWith_1 rfl (lv_at hl 1 rfl) ?_
  refine zc_i (zrV (As := [.int (iZ t)]) (rest := []) (κ := 0) (i := 0) ⟨hx, hb, hml, hown, hts⟩ (c_X5_ahead l D cA n am S H.size t hW (by omega) hIv.1.1.1 hIv.1.2.1 (by omega)) (cwV 1 hts gX5_isReachedWith_X5_ahead rfl rfl rfl (by decide +kernel) ⟨Nat.le_of_ble_eq_true rfl, Nat.le_of_ble_eq_true rfl⟩) hK hI (hW.1 0 (by decide)) rfl rfl rfl hl.1 rfl (Nat.le_of_ble_eq_true rfl) dX5_isReachedWith_2 ⟨Nat.le_of_ble_eq_true rfl, Nat.le_of_ble_eq_true rfl⟩) hI (fun z1 u9 H locs hz2 hp3 hI hfr => ?_)
  clear hfr
  obtain ⟨rfl, rfl⟩ := hp3
  refine z_if_ne (tgt := 10) hx hb dX5_isReachedWith_5 (by decide) (by omega) (fun c4 => ?_) (fun c4 => ?_)
  · skip
    have hah0 := c4
    refine lv_aload_n hx hb dX5_isReachedWith_10 rfl (lv_at hl 0 rfl) ?_
    refine lv_iload_n hx hb dX5_isReachedWith_11 rfl (lv_at hl 1 rfl) ?_
    refine zc_i (zrV (As := [.int (iZ t)]) (rest := []) (κ := 0) (i := 0) ⟨hx, hb, hml, hown, hts⟩ (c_X5_ahead l D cA n am S H.size t hW (by omega) hIv.1.1.1 hIv.1.2.1 (by omega)) (cwV 1 hts gX5_isReachedWith_X5_ahead rfl rfl rfl (by decide +kernel) ⟨Nat.le_of_ble_eq_true rfl, Nat.le_of_ble_eq_true rfl⟩) hK hI (hW.1 0 (by decide)) rfl rfl rfl hl.1 rfl (Nat.le_of_ble_eq_true rfl) dX5_isReachedWith_12 ⟨Nat.le_of_ble_eq_true rfl, Nat.le_of_ble_eq_true rfl⟩) hI (fun z5 u9 H locs hz6 hp7 hI hfr => ?_)
    clear hfr
    obtain ⟨rfl, rfl⟩ := hp7
    refine lv_iload_n hx hb dX5_isReachedWith_15 rfl (lv_at hl 2 rfl) ?_
    refine z_icmp_le (tgt := 21) hx hb dX5_isReachedWith_16 (by decide) (by omega) (by omega) (fun c8 => ?_) (fun c8 => ?_)
    · skip
      exact absurd (show mAhead S t = 0 by omega) hah0
    · skip
      refine z_iconst hx hb dX5_isReachedWith_19 ?_
      exact (ze_i (u' := (n, am, S)) (z := 0) hx hb hr (iZ_narz (by omega) (by omega)).1 hI (by omega) ⟨S, rfl, mEq.rfl' S, (zB_f (show ¬ mAhead S t = 0 from hah0)).symm⟩ (Nat.le_of_ble_eq_true rfl) (Nat.le_of_ble_eq_true rfl) dX5_isReachedWith_20 hlocks)
  · skip
    refine z_iconst hx hb dX5_isReachedWith_8 ?_
    exact (ze_i (u' := (n, am, S)) (z := 1) hx hb hr (iZ_narz (by omega) (by omega)).1 hI (by omega) ⟨S, rfl, mEq.rfl' S, (zB_t (c4)).symm⟩ (Nat.le_of_ble_eq_true rfl) (Nat.le_of_ble_eq_true rfl) dX5_isReachedWith_9 hlocks)
set_option maxHeartbeats 4000000 in
set_option maxRecDepth 100000 in
theorem c_X5_isReachedBehind_1 (l : Launch) (D : va_G) (cA : Nat → ClassId) (n : Nat → Nat) (am : ts_Am) (S : ts_St) (sz : Nat) (t a b v : Int) (hW : mW n S) (ht0 : 0 ≤ t ∧ t < 40) (hIv : mIv S t) (ha0 : 0 ≤ a ∧ a < S 0 0 0) (hb0 : 0 ≤ b ∧ b < S 0 0 0) (hv : v = 1) : Met l yX5_isReachedBehind wsX5_isReachedBehind ({ frames := 3, cells := 0, slots := 0, locals := 70 } : Room) (va_Pc [.ref (am 0 0), .int (iZ t), .int (iZ a), .int (iZ b), .int (iZ v)] (zP TM D cA (n, am, S) sz)) (zQi TM D cA (n, am, S) sz (fun z u => ∃ S9, u = (n, am, S9) ∧ mEq S S9 ∧ z = zB (mT 0 S t a b))) 0 0 (ts_A (n, am, S) sz) := by
  refine zM_of (by decide) rfl (Nat.le_of_ble_eq_true rfl) ?_
  intro p e s m below meth c hx hb hr hts hown hlocks hml hname hK hsz H locs hI ls hl
  subst hsz
  have hown : s.vm.findClass RX5 = some m.cls := hown
  have hl : lv_has ls 7 [(0, .ref (am 0 0)), (1, .int (iZ t)), (2, .int (iZ a)), (3, .int (iZ b)), (4, .int (iZ v))] := hl
  have f17 := hts (.fieldLink RX5 17 "DockyardSlotsModel" "counts" "[I") (by decide +kernel)
  have f20 := hts (.fieldLink RX5 20 "DockyardSlotsModel" "slots" "[I") (by decide +kernel)
  have LX5 : ∀ w ∈ wsX50, w.before [.ref (am 0 0), .int (iZ t), .int (iZ a), .int (iZ b), .int (iZ v)].toArray s = true := fun w h => hts w (List.mem_cons_of_mem _ (List.mem_append_left _ (List.mem_append_right _ h)))
  have hlc := hIv.1.1.1
  refine lv_iload_n hx hb dX5_isReachedBehind_0 rfl (lv_at hl 2 rfl) ?_
  refine lv_iload_n hx hb dX5_isReachedBehind_1 rfl (lv_at hl 3 rfl) ?_
  refine z_icmp_eq (tgt := 14) hx hb dX5_isReachedBehind_2 (by decide) (by omega) (by omega) (fun c1 => ?_) (fun c1 => ?_)
  · skip
    refine z_iconst hx hb dX5_isReachedBehind_14 ?_
    exact (ze_i (u' := (n, am, S)) (z := 0) hx hb hr (iZ_narz (by omega) (by omega)).1 hI (by omega) ⟨S, rfl, mEq.rfl' S, (zB_f (fun q => by have q1 := q.1.1; have q2 := q.1.2.1; omega)).symm⟩ (Nat.le_of_ble_eq_true rfl) (Nat.le_of_ble_eq_true rfl) dX5_isReachedBehind_15 hlocks)
  · skip
    refine lv_aload_n hx hb dX5_isReachedBehind_5 rfl (lv_at hl 0 rfl) ?_
    refine zg_r (κ := 0) (i := 0) (k := 3) (t := 3) (j := 0) hx hb LX5 hown hK hI (hW.1 0 (by decide)) rfl rfl (by decide) rfl f17 (fun _ h9 => h9) dX5_isReachedBehind_6 (hW.rf 3 rfl) (fun v2 => ?_)
    refine lv_iload_n hx hb dX5_isReachedBehind_9 rfl (lv_at hl 2 rfl) ?_
    refine za_i (κ := 3) (i := 0) hx hb hK hI v2 rfl (by omega) (by omega) (by omega) dX5_isReachedBehind_10 rfl (fun b3 => ?_)
    refine z_if_ne (tgt := 16) hx hb dX5_isReachedBehind_11 (by decide) (by omega) (fun c4 => ?_) (fun c4 => ?_)
    · skip
      have hcb := hIv.1.2.1 b.toNat
      have hca := hIv.1.2.1 a.toNat
      have htp : 0 ≤ S 4 0 (((3 * a) + S 3 0 a.toNat) - 1).toNat ∧ S 4 0 (((3 * a) + S 3 0 a.toNat) - 1).toNat < 40 := mTop_R hIv.1 hIv.2.1 (a := a) (by omega) (by omega)
      refine lv_aload_n hx hb dX5_isReachedBehind_16 rfl (lv_at hl 0 rfl) ?_
      refine zg_r (κ := 0) (i := 0) (k := 4) (t := 4) (j := 0) hx hb LX5 hown hK hI (hW.1 0 (by decide)) rfl rfl (by decide) rfl f20 (fun _ h9 => h9) dX5_isReachedBehind_17 (hW.rf 4 rfl) (fun v5 => ?_)
      refine z_iconst hx hb dX5_isReachedBehind_20 ?_
      refine lv_iload_n hx hb dX5_isReachedBehind_21 rfl (lv_at hl 2 rfl) ?_
      refine z_imul hx hb dX5_isReachedBehind_22 ?_
      refine lv_aload_n hx hb dX5_isReachedBehind_23 rfl (lv_at hl 0 rfl) ?_
      refine zg_r (κ := 0) (i := 0) (k := 3) (t := 3) (j := 0) hx hb LX5 hown hK hI (hW.1 0 (by decide)) rfl rfl (by decide) rfl f17 (fun _ h9 => h9) dX5_isReachedBehind_24 (hW.rf 3 rfl) (fun v6 => ?_)
      refine lv_iload_n hx hb dX5_isReachedBehind_27 rfl (lv_at hl 2 rfl) ?_
      refine za_i (κ := 3) (i := 0) hx hb hK hI v6 rfl (by omega) (by omega) (by omega) dX5_isReachedBehind_28 rfl (fun b7 => ?_)
      refine z_iadd hx hb dX5_isReachedBehind_29 ?_
      refine z_iconst hx hb dX5_isReachedBehind_30 ?_
      refine z_isub hx hb dX5_isReachedBehind_31 ?_
      refine za_i (κ := 4) (i := 0) hx hb hK hI v5 rfl (by omega) (by omega) (by omega) dX5_isReachedBehind_32 rfl (fun b8 => ?_)
      refine lv_istore (lv' := [(5, .int (iZ (S 4 0 ((((3 * a) + S 3 0 a.toNat) - 1).toNat)))), (0, .ref (am 0 0)), (1, .int (iZ t)), (2, .int (iZ a)), (3, .int (iZ b)), (4, .int (iZ v))]) hx hb dX5_isReachedBehind_33 hl (by decide) rfl (fun ls hl => ?_)
      refine lv_iload hx hb dX5_isReachedBehind_35 (lv_at hl 0 rfl) ?_
      refine lv_iload_n hx hb dX5_isReachedBehind_37 rfl (lv_at hl 2 rfl) ?_
      refine z_icmp_eq (tgt := 51) hx hb dX5_isReachedBehind_38 (by decide) (by omega) (by omega) (fun c9 => ?_) (fun c9 => ?_)
      · skip
        refine z_iconst hx hb dX5_isReachedBehind_51 ?_
        exact (ze_i (u' := (n, am, S)) (z := 0) hx hb hr (iZ_narz (by omega) (by omega)).1 hI (by omega) ⟨S, rfl, mEq.rfl' S, (zB_f (fun q => q.1.2.2.1 c9)).symm⟩ (Nat.le_of_ble_eq_true rfl) (Nat.le_of_ble_eq_true rfl) dX5_isReachedBehind_52 hlocks)
      · skip
        refine lv_aload_n hx hb dX5_isReachedBehind_41 rfl (lv_at hl 1 rfl) ?_
        refine lv_iload hx hb dX5_isReachedBehind_42 (lv_at hl 0 rfl) ?_
        refine lv_iload_n hx hb dX5_isReachedBehind_44 rfl (lv_at hl 4 rfl) ?_
        refine zc_i (zrV (As := [.int (iZ (S 4 0 ((((3 * a) + S 3 0 a.toNat) - 1).toNat))), .int (iZ b)]) (rest := []) (κ := 0) (i := 0) ⟨hx, hb, hml, hown, hts⟩ (c_X5_canCome l D cA n am S H.size (S 4 0 ((((3 * a) + S 3 0 a.toNat) - 1).toNat)) b hW (by omega) (by omega)) (cwV 2 hts gX5_isReachedBehind_X5_canCome rfl rfl rfl (by decide +kernel) ⟨Nat.le_of_ble_eq_true rfl, Nat.le_of_ble_eq_true rfl⟩) hK hI (hW.1 0 (by decide)) rfl rfl rfl hl.1 rfl (Nat.le_of_ble_eq_true rfl) dX5_isReachedBehind_45 ⟨Nat.le_of_ble_eq_true rfl, Nat.le_of_ble_eq_true rfl⟩) hI (fun z10 u9 H locs hz11 hp12 hI hfr => ?_)
        clear hfr
        obtain ⟨rfl, rfl⟩ := hp12
        refine z_if_ne (tgt := 53) hx hb dX5_isReachedBehind_48 (by decide) (by omega) (fun c13 => ?_) (fun c13 => ?_)
        · skip
          have c13 := zB_1 c13
          have hok : mOk S t a b := ⟨by omega, by omega, c9, c13⟩
          have hcap := mOk_cap hIv.1 hok
          refine lv_aload_n hx hb dX5_isReachedBehind_53 rfl (lv_at hl 1 rfl) ?_
          refine zg_r (κ := 0) (i := 0) (k := 3) (t := 3) (j := 0) hx hb LX5 hown hK hI (hW.1 0 (by decide)) rfl rfl (by decide) rfl f17 (fun _ h9 => h9) dX5_isReachedBehind_54 (hW.rf 3 rfl) (fun v14 => ?_)
          refine lv_iload_n hx hb dX5_isReachedBehind_57 rfl (lv_at hl 3 rfl) ?_
          refine lv_dup2_11 hx hb dX5_isReachedBehind_58 rfl rfl ?_
          refine za_i (κ := 3) (i := 0) hx hb hK hI v14 rfl (by omega) (by omega) (by omega) dX5_isReachedBehind_59 rfl (fun b15 => ?_)
          refine z_iconst hx hb dX5_isReachedBehind_60 ?_
          refine z_isub hx hb dX5_isReachedBehind_61 ?_
          refine zs_i (κ := 3) (i := 0) hx hb hK hI v14 rfl (by omega) (by omega) (by omega) (by omega) dX5_isReachedBehind_62 (fun H locs hI => ?_)
          obtain ⟨S16, eS16⟩ : ∃ z, z = up3 S 3 0 a.toNat (S 3 0 a.toNat - 1) := ⟨_, rfl⟩
          rw [← eS16] at hI
          have hW : mW n S16 := by rw [eS16]; exact hW.put rfl
          refine lv_aload_n hx hb dX5_isReachedBehind_63 rfl (lv_at hl 1 rfl) ?_
          refine lv_iload hx hb dX5_isReachedBehind_64 (lv_at hl 0 rfl) ?_
          refine lv_iload_n hx hb dX5_isReachedBehind_66 rfl (lv_at hl 4 rfl) ?_
          refine zc_v (zrV (As := [.int (iZ (S 4 0 ((((3 * a) + S 3 0 a.toNat) - 1).toNat))), .int (iZ b)]) (rest := []) (κ := 0) (i := 0) ⟨hx, hb, hml, hown, hts⟩ (c_X5_comes l D cA n am S16 H.size (S 4 0 ((((3 * a) + S 3 0 a.toNat) - 1).toNat)) b hW (by omega) (by omega) (by rw [eS16, up3_n (by omega)]; omega)) (cwV 2 hts gX5_isReachedBehind_X5_comes rfl rfl rfl (by decide +kernel) ⟨Nat.le_of_ble_eq_true rfl, Nat.le_of_ble_eq_true rfl⟩) hK hI (hW.1 0 (by decide)) rfl rfl rfl hl.1 rfl (Nat.le_of_ble_eq_true rfl) dX5_isReachedBehind_67 ⟨Nat.le_of_ble_eq_true rfl, Nat.le_of_ble_eq_true rfl⟩) hI (fun u9 H locs hp17 hI hfr => ?_)
          clear hfr
          obtain rfl := hp17
          obtain ⟨S18, eS18⟩ : ∃ z, z = mComes S16 (S 4 0 ((((3 * a) + S 3 0 a.toNat) - 1).toNat)) b := ⟨_, rfl⟩
          rw [← eS18] at hI
          have hW : mW n S18 := by rw [eS18]; exact (hW.put rfl).put rfl
          have hms : S18 = mMv S a b := by rw [eS18, eS16]; rfl
          refine lv_aload_n hx hb dX5_isReachedBehind_70 rfl (lv_at hl 1 rfl) ?_
          refine lv_iload_n hx hb dX5_isReachedBehind_71 rfl (lv_at hl 2 rfl) ?_
          refine lv_iload hx hb dX5_isReachedBehind_72 (lv_at hl 5 rfl) ?_
          refine z_iconst hx hb dX5_isReachedBehind_74 ?_
          refine z_isub hx hb dX5_isReachedBehind_75 ?_
          refine zc_i (zrV (As := [.int (iZ t), .int (iZ (v - 1))]) (rest := []) (κ := 0) (i := 0) ⟨hx, hb, hml, hown, hts⟩ (c_X5_isReachedWith_0 l D cA n am S18 H.size t (v - 1) hW (by omega) (by rw [hms]; exact mMv_Iv hIv (by omega) (by omega) hok) (by omega)) (cwV 2 hts gX5_isReachedBehind_X5_isReachedWith rfl rfl rfl (by decide +kernel) ⟨Nat.le_of_ble_eq_true rfl, Nat.le_of_ble_eq_true rfl⟩) hK hI (hW.1 0 (by decide)) rfl rfl rfl hl.1 rfl (Nat.le_of_ble_eq_true rfl) dX5_isReachedBehind_76 ⟨Nat.le_of_ble_eq_true rfl, Nat.le_of_ble_eq_true rfl⟩) hI (fun z19 u9 H locs hz20 hp21 hI hfr => ?_)
          clear hfr
          obtain ⟨S22, rfl, hS22, rfl⟩ := hp21
          have hW : mW n S22 := hS22.W hW
          rw [hms] at hS22
          have hmv := hS22
          have hmb : S22 3 0 b.toNat = S 3 0 b.toNat + 1 := by rw [hS22.c, mMv_3 hok.1 (by omega) (by omega), if_neg (by omega), if_pos rfl]
          have hma : S22 3 0 a.toNat = S 3 0 a.toNat - 1 := by rw [hS22.c, mMv_3 hok.1 (by omega) (by omega), if_pos rfl]
          rw [hms]
          refine lv_istore (lv' := [(6, .int (iZ (zB (mRch 0 (mMv S a b) t)))), (5, .int (iZ (S 4 0 ((((3 * a) + S 3 0 a.toNat) - 1).toNat)))), (0, .ref (am 0 0)), (1, .int (iZ t)), (2, .int (iZ a)), (3, .int (iZ b)), (4, .int (iZ v))]) hx hb dX5_isReachedBehind_79 hl (by decide) rfl (fun ls hl => ?_)
          refine lv_aload_n hx hb dX5_isReachedBehind_81 rfl (lv_at hl 2 rfl) ?_
          refine zg_r (κ := 0) (i := 0) (k := 3) (t := 3) (j := 0) hx hb LX5 hown hK hI (hW.1 0 (by decide)) rfl rfl (by decide) rfl f17 (fun _ h9 => h9) dX5_isReachedBehind_82 (hW.rf 3 rfl) (fun v23 => ?_)
          refine lv_iload_n hx hb dX5_isReachedBehind_85 rfl (lv_at hl 5 rfl) ?_
          refine lv_dup2_11 hx hb dX5_isReachedBehind_86 rfl rfl ?_
          refine za_i (κ := 3) (i := 0) hx hb hK hI v23 rfl (by omega) (by omega) (by omega) dX5_isReachedBehind_87 rfl (fun b24 => ?_)
          refine z_iconst hx hb dX5_isReachedBehind_88 ?_
          refine z_isub hx hb dX5_isReachedBehind_89 ?_
          refine zs_i (κ := 3) (i := 0) hx hb hK hI v23 rfl (by omega) (by omega) (by omega) (by omega) dX5_isReachedBehind_90 (fun H locs hI => ?_)
          obtain ⟨S25, eS25⟩ : ∃ z, z = up3 S22 3 0 b.toNat (S22 3 0 b.toNat - 1) := ⟨_, rfl⟩
          rw [← eS25] at hI
          have hW : mW n S25 := by rw [eS25]; exact hW.put rfl
          refine lv_aload_n hx hb dX5_isReachedBehind_91 rfl (lv_at hl 2 rfl) ?_
          refine lv_iload hx hb dX5_isReachedBehind_92 (lv_at hl 1 rfl) ?_
          refine lv_iload_n hx hb dX5_isReachedBehind_94 rfl (lv_at hl 4 rfl) ?_
          refine zc_v (zrV (As := [.int (iZ (S 4 0 ((((3 * a) + S 3 0 a.toNat) - 1).toNat))), .int (iZ a)]) (rest := []) (κ := 0) (i := 0) ⟨hx, hb, hml, hown, hts⟩ (c_X5_comes l D cA n am S25 H.size (S 4 0 ((((3 * a) + S 3 0 a.toNat) - 1).toNat)) a hW (by omega) (by omega) (by rw [eS25, up3_n (by omega)]; omega)) (cwV 2 hts gX5_isReachedBehind_X5_comes rfl rfl rfl (by decide +kernel) ⟨Nat.le_of_ble_eq_true rfl, Nat.le_of_ble_eq_true rfl⟩) hK hI (hW.1 0 (by decide)) rfl rfl rfl hl.1 rfl (Nat.le_of_ble_eq_true rfl) dX5_isReachedBehind_95 ⟨Nat.le_of_ble_eq_true rfl, Nat.le_of_ble_eq_true rfl⟩) hI (fun u9 H locs hp26 hI hfr => ?_)
          clear hfr
          obtain rfl := hp26
          obtain ⟨S27, eS27⟩ : ∃ z, z = mComes S25 (S 4 0 ((((3 * a) + S 3 0 a.toNat) - 1).toNat)) a := ⟨_, rfl⟩
          rw [← eS27] at hI
          have hW : mW n S27 := by rw [eS27]; exact (hW.put rfl).put rfl
          refine lv_iload hx hb dX5_isReachedBehind_98 (lv_at hl 0 rfl) ?_
          exact (ze_i (u' := (n, am, S27)) (z := zB (mRch 0 (mMv S a b) t)) hx hb hr (iZ_narz (zB_R _).1 (zB_R _).2).1 hI (zB_iR _) ⟨S27, rfl, by rw [eS27, eS25]; exact mBack hIv.1.2.1 hok.1 (by omega) (by omega) hok.2.1 (mOk_cap hIv.1 hok) hmv, zB_iff ⟨fun q => ⟨hok, q⟩, fun q => q.2⟩⟩ (Nat.le_of_ble_eq_true rfl) (Nat.le_of_ble_eq_true rfl) dX5_isReachedBehind_100 hlocks)
        · skip
          have c13 := zB_0 c13
          refine z_iconst hx hb dX5_isReachedBehind_51 ?_
          exact (ze_i (u' := (n, am, S)) (z := 0) hx hb hr (iZ_narz (by omega) (by omega)).1 hI (by omega) ⟨S, rfl, mEq.rfl' S, (zB_f (fun q => c13 q.1.2.2.2)).symm⟩ (Nat.le_of_ble_eq_true rfl) (Nat.le_of_ble_eq_true rfl) dX5_isReachedBehind_52 hlocks)
    · skip
      refine z_iconst hx hb dX5_isReachedBehind_14 ?_
      exact (ze_i (u' := (n, am, S)) (z := 0) hx hb hr (iZ_narz (by omega) (by omega)).1 hI (by omega) ⟨S, rfl, mEq.rfl' S, (zB_f (fun q => by have q1 := q.1.1; have q2 := q.1.2.1; omega)).symm⟩ (Nat.le_of_ble_eq_true rfl) (Nat.le_of_ble_eq_true rfl) dX5_isReachedBehind_15 hlocks)
set_option maxHeartbeats 4000000 in
set_option maxRecDepth 100000 in
theorem c_X5_isReachedWith_1 (l : Launch) (D : va_G) (cA : Nat → ClassId) (n : Nat → Nat) (am : ts_Am) (S : ts_St) (sz : Nat) (t v : Int) (hW : mW n S) (ht0 : 0 ≤ t ∧ t < 40) (hIv : mIv S t) (hv : v = 1) : Met l yX5_isReachedWith wsX5_isReachedWith ({ frames := 4, cells := 0, slots := 0, locals := 96 } : Room) (va_Pc [.ref (am 0 0), .int (iZ t), .int (iZ v)] (zP TM D cA (n, am, S) sz)) (zQi TM D cA (n, am, S) sz (fun z u => ∃ S9, u = (n, am, S9) ∧ mEq S S9 ∧ z = zB (mRch 1 S t))) 0 0 (ts_A (n, am, S) sz) := by
  refine zM_of (by decide) rfl (Nat.le_of_ble_eq_true rfl) ?_
  intro p e s m below meth c hx hb hr hts hown hlocks hml hname hK hsz H locs hI ls hl
  subst hsz
  have hown : s.vm.findClass RX5 = some m.cls := hown
  have hl : lv_has ls 6 [(0, .ref (am 0 0)), (1, .int (iZ t)), (2, .int (iZ v))] := hl
  have f70 := hts (.fieldLink RX5 70 "DockyardSlotsModel" "lanes" "I") (by decide +kernel)
  have LX5 : ∀ w ∈ wsX50, w.before [.ref (am 0 0), .int (iZ t), .int (iZ v)].toArray s = true := fun w h => hts w (List.mem_cons_of_mem _ (List.mem_append_left _ (List.mem_append_right _ h)))
  have hlc := hIv.1.1.1
  have hsr := mSlot_R (S := S) (t := t) hlc.2 hIv.1.2.1
  have hsi := hIv.2.2
  have hahR := mAhead_R hIv.1.2.1 hIv.2.2
  refine lv_aload_n hx hb dX5_isReachedWith_0 rfl (lv_at hl 0 rfl) ?_
  refine lv_iload_n hx hb dX5_isReachedWith_1 rfl (lv_at hl 1 rfl) ?_
  refine zc_i (zrV (As := [.int (iZ t)]) (rest := []) (κ := 0) (i := 0) ⟨hx, hb, hml, hown, hts⟩ (c_X5_ahead l D cA n am S H.size t hW (by omega) hIv.1.1.1 hIv.1.2.1 (by omega)) (cwV 1 hts gX5_isReachedWith_X5_ahead rfl rfl rfl (by decide +kernel) ⟨Nat.le_of_ble_eq_true rfl, Nat.le_of_ble_eq_true rfl⟩) hK hI (hW.1 0 (by decide)) rfl rfl rfl hl.1 rfl (Nat.le_of_ble_eq_true rfl) dX5_isReachedWith_2 ⟨Nat.le_of_ble_eq_true rfl, Nat.le_of_ble_eq_true rfl⟩) hI (fun z1 u9 H locs hz2 hp3 hI hfr => ?_)
  clear hfr
  obtain ⟨rfl, rfl⟩ := hp3
  refine z_if_ne (tgt := 10) hx hb dX5_isReachedWith_5 (by decide) (by omega) (fun c4 => ?_) (fun c4 => ?_)
  · skip
    have hah0 := c4
    refine lv_aload_n hx hb dX5_isReachedWith_10 rfl (lv_at hl 0 rfl) ?_
    refine lv_iload_n hx hb dX5_isReachedWith_11 rfl (lv_at hl 1 rfl) ?_
    refine zc_i (zrV (As := [.int (iZ t)]) (rest := []) (κ := 0) (i := 0) ⟨hx, hb, hml, hown, hts⟩ (c_X5_ahead l D cA n am S H.size t hW (by omega) hIv.1.1.1 hIv.1.2.1 (by omega)) (cwV 1 hts gX5_isReachedWith_X5_ahead rfl rfl rfl (by decide +kernel) ⟨Nat.le_of_ble_eq_true rfl, Nat.le_of_ble_eq_true rfl⟩) hK hI (hW.1 0 (by decide)) rfl rfl rfl hl.1 rfl (Nat.le_of_ble_eq_true rfl) dX5_isReachedWith_12 ⟨Nat.le_of_ble_eq_true rfl, Nat.le_of_ble_eq_true rfl⟩) hI (fun z5 u9 H locs hz6 hp7 hI hfr => ?_)
    clear hfr
    obtain ⟨rfl, rfl⟩ := hp7
    refine lv_iload_n hx hb dX5_isReachedWith_15 rfl (lv_at hl 2 rfl) ?_
    refine z_icmp_le (tgt := 21) hx hb dX5_isReachedWith_16 (by decide) (by omega) (by omega) (fun c8 => ?_) (fun c8 => ?_)
    · skip
      refine z_iconst hx hb dX5_isReachedWith_21 ?_
      refine lv_istore_n (lv' := [(3, .int (iZ 0)), (0, .ref (am 0 0)), (1, .int (iZ t)), (2, .int (iZ v))]) hx hb dX5_isReachedWith_22 rfl hl (by decide) rfl (fun ls hl => ?_)
      refine z_iconst hx hb dX5_isReachedWith_23 ?_
      refine lv_istore (lv' := [(4, .int (iZ 0)), (3, .int (iZ 0)), (0, .ref (am 0 0)), (1, .int (iZ t)), (2, .int (iZ v))]) hx hb dX5_isReachedWith_24 hl (by decide) rfl (fun ls hl => ?_)
      obtain ⟨x, e_x⟩ : ∃ z : Int, z = 0 := ⟨_, rfl⟩
      obtain ⟨y, e_y⟩ : ∃ z : Int, z = 0 := ⟨_, rfl⟩
      replace hl : lv_has ls 6 [(4, .int (iZ y)), (3, .int (iZ x)), (0, .ref (am 0 0)), (1, .int (iZ t)), (2, .int (iZ v))] := by rw [e_x, e_y]; exact hl
      obtain ⟨S1, e_S1⟩ : ∃ z, z = S := ⟨_, rfl⟩
      rw [← e_S1] at hI
      replace hW : mW n S1 := by rw [e_S1]; exact hW
      have h1 : 0 ≤ y ∧ y ≤ S 0 0 0 := by have := hIv.1.1.1; omega
      have h2 : mEq S S1 := by rw [e_S1]; exact mEq.rfl' S
      have h3 : x = zB (mEx 0 S t y) := by rw [e_x, e_y]; exact (zB_f mEx_0).symm
      have h4 : 0 ≤ x ∧ x < 2 := by omega
      obtain ⟨k26, hk26⟩ : ∃ k : Nat, S 0 0 0 - y < (k : Int) := ⟨(S 0 0 0 - y).toNat + 1, by omega⟩
      clear e_x e_y e_S1
      induction k26 generalizing x y S1 H locs ls with
      | zero => omega
      | succ k26 ih26 =>
        have h10 := h2.1 0 0 0 (by decide)
        refine lv_iload_n hx hb dX5_isReachedWith_26 rfl (lv_at hl 1 rfl) ?_
        refine z_if_ne (tgt := 78) hx hb dX5_isReachedWith_27 (by decide) (by omega) (fun c9 => ?_) (fun c9 => ?_)
        · skip
          refine lv_iload_n hx hb dX5_isReachedWith_78 rfl (lv_at hl 1 rfl) ?_
          exact (ze_i (u' := (n, am, S1)) (z := x) hx hb hr (iZ_narz (by omega) (by omega)).1 hI (by omega) ⟨S1, rfl, h2, by rw [h3] at c9 ⊢; rw [zB_t (zB_1 c9), zB_t (mRch_ex hah0 (by omega) (zB_1 c9) (by omega))]⟩ (Nat.le_of_ble_eq_true rfl) (Nat.le_of_ble_eq_true rfl) dX5_isReachedWith_79 hlocks)
        · skip
          refine lv_iload hx hb dX5_isReachedWith_30 (lv_at hl 0 rfl) ?_
          refine lv_aload_n hx hb dX5_isReachedWith_32 rfl (lv_at hl 2 rfl) ?_
          refine zg_i (κ := 0) (i := 0) (k := 0) hx hb LX5 hown hK hI (hW.1 0 (by decide)) rfl rfl (by decide) rfl f70 (fun _ h9 => h9) dX5_isReachedWith_33 rfl (fun b10 => ?_)
          refine z_icmp_ge (tgt := 78) hx hb dX5_isReachedWith_36 (by decide) (by omega) (by omega) (fun c11 => ?_) (fun c11 => ?_)
          · skip
            refine lv_iload_n hx hb dX5_isReachedWith_78 rfl (lv_at hl 1 rfl) ?_
            exact (ze_i (u' := (n, am, S1)) (z := x) hx hb hr (iZ_narz (by omega) (by omega)).1 hI (by omega) ⟨S1, rfl, h2, by rw [h3] at c9 ⊢; rw [zB_f (zB_0 c9), zB_f (mRch_nex hah0 (zB_0 c9) (by omega))]⟩ (Nat.le_of_ble_eq_true rfl) (Nat.le_of_ble_eq_true rfl) dX5_isReachedWith_79 hlocks)
          · skip
            refine z_iconst hx hb dX5_isReachedWith_39 ?_
            refine lv_istore (lv' := [(5, .int (iZ 0)), (4, .int (iZ y)), (3, .int (iZ x)), (0, .ref (am 0 0)), (1, .int (iZ t)), (2, .int (iZ v))]) hx hb dX5_isReachedWith_40 hl (by decide) rfl (fun ls hl => ?_)
            obtain ⟨x2, e_x2⟩ : ∃ z : Int, z = x := ⟨_, rfl⟩
            obtain ⟨w, e_w⟩ : ∃ z : Int, z = 0 := ⟨_, rfl⟩
            replace hl : lv_has ls 6 [(5, .int (iZ w)), (4, .int (iZ y)), (3, .int (iZ x2)), (0, .ref (am 0 0)), (1, .int (iZ t)), (2, .int (iZ v))] := by rw [e_x2, e_w]; exact hl
            obtain ⟨S2, e_S2⟩ : ∃ z, z = S1 := ⟨_, rfl⟩
            rw [← e_S2] at hI
            replace hW : mW n S2 := by rw [e_S2]; exact hW
            have h1b : 0 ≤ w ∧ w ≤ S 0 0 0 := by have := hIv.1.1.1; omega
            have h5 : mEq S S2 := by rw [e_S2]; exact h2
            have h6 : x2 = zB (mEx2 0 S t y w) := by rw [e_x2, e_w, h3]; exact (zB_iff mEx2_0).symm
            have h7 : 0 ≤ x2 ∧ x2 < 2 := by omega
            obtain ⟨k42, hk42⟩ : ∃ k : Nat, S 0 0 0 - w < (k : Int) := ⟨(S 0 0 0 - w).toNat + 1, by omega⟩
            clear e_x2 e_w e_S2
            induction k42 generalizing x2 w S2 H locs ls with
            | zero => omega
            | succ k42 ih42 =>
              have h11 := h5.1 0 0 0 (by decide)
              refine lv_iload_n hx hb dX5_isReachedWith_42 rfl (lv_at hl 2 rfl) ?_
              refine z_if_ne (tgt := 72) hx hb dX5_isReachedWith_43 (by decide) (by omega) (fun c12 => ?_) (fun c12 => ?_)
              · skip
                refine z_iinc (k := 1) (lv' := [(4, .int (iZ (y + 1))), (5, .int (iZ w)), (3, .int (iZ x2)), (0, .ref (am 0 0)), (1, .int (iZ t)), (2, .int (iZ v))]) hx hb dX5_isReachedWith_72 hl rfl (by decide) rfl (fun ls hl => ?_)
                refine lv_goto (tgt := 26) hx hb dX5_isReachedWith_75 (by decide) ?_
                exact ih26 (x := x2) (y := (y + 1)) (S1 := S2) (h1 := by omega) (h2 := by exact h5) (h3 := by rw [h6] at c12 ⊢; have q := zB_1 c12; rw [zB_t q, zB_t (mEx_s (by omega) q (by omega))]) (h4 := by omega) (hW := hW) (hk26 := by omega) (hI := hI) (hl := lv_sub hl [0, 2, 3, 4, 5] rfl)
              · skip
                have hIv2 := h5.Iv hIv
                have hlc := hIv.1.1.1
                refine lv_iload hx hb dX5_isReachedWith_46 (lv_at hl 0 rfl) ?_
                refine lv_aload_n hx hb dX5_isReachedWith_48 rfl (lv_at hl 3 rfl) ?_
                refine zg_i (κ := 0) (i := 0) (k := 0) hx hb LX5 hown hK hI (hW.1 0 (by decide)) rfl rfl (by decide) rfl f70 (fun _ h9 => h9) dX5_isReachedWith_49 rfl (fun b13 => ?_)
                refine z_icmp_ge (tgt := 72) hx hb dX5_isReachedWith_52 (by decide) (by omega) (by omega) (fun c14 => ?_) (fun c14 => ?_)
                · skip
                  refine z_iinc (k := 1) (lv' := [(4, .int (iZ (y + 1))), (5, .int (iZ w)), (3, .int (iZ x2)), (0, .ref (am 0 0)), (1, .int (iZ t)), (2, .int (iZ v))]) hx hb dX5_isReachedWith_72 hl rfl (by decide) rfl (fun ls hl => ?_)
                  refine lv_goto (tgt := 26) hx hb dX5_isReachedWith_75 (by decide) ?_
                  exact ih26 (x := x2) (y := (y + 1)) (S1 := S2) (h1 := by omega) (h2 := by exact h5) (h3 := by rw [h6] at c12 ⊢; have q := zB_0 c12; rw [zB_f q, zB_f (mEx_n q (by omega))]) (h4 := by omega) (hW := hW) (hk26 := by omega) (hI := hI) (hl := lv_sub hl [0, 2, 3, 4, 5] rfl)
                · skip
                  refine lv_aload_n hx hb dX5_isReachedWith_55 rfl (lv_at hl 3 rfl) ?_
                  refine lv_iload_n hx hb dX5_isReachedWith_56 rfl (lv_at hl 4 rfl) ?_
                  refine lv_iload hx hb dX5_isReachedWith_57 (lv_at hl 1 rfl) ?_
                  refine lv_iload hx hb dX5_isReachedWith_59 (lv_at hl 0 rfl) ?_
                  refine lv_iload_n hx hb dX5_isReachedWith_61 rfl (lv_at hl 5 rfl) ?_
                  refine zc_i (zrV (As := [.int (iZ t), .int (iZ y), .int (iZ w), .int (iZ v)]) (rest := []) (κ := 0) (i := 0) ⟨hx, hb, hml, hown, hts⟩ (c_X5_isReachedBehind_1 l D cA n am S2 H.size t y w v hW (by omega) hIv2 (by omega) (by omega) (by omega)) (cwV 4 hts gX5_isReachedWith_X5_isReachedBehind rfl rfl rfl (by decide +kernel) ⟨Nat.le_of_ble_eq_true rfl, Nat.le_of_ble_eq_true rfl⟩) hK hI (hW.1 0 (by decide)) rfl rfl rfl hl.1 rfl (Nat.le_of_ble_eq_true rfl) dX5_isReachedWith_62 ⟨Nat.le_of_ble_eq_true rfl, Nat.le_of_ble_eq_true rfl⟩) hI (fun z15 u9 H locs hz16 hp17 hI hfr => ?_)
                  clear hfr
                  obtain ⟨S18, rfl, hS18, rfl⟩ := hp17
                  have hW : mW n S18 := hS18.W hW
                  refine lv_istore_n (lv' := [(3, .int (iZ (zB (mT 0 S2 t y w)))), (5, .int (iZ w)), (4, .int (iZ y)), (0, .ref (am 0 0)), (1, .int (iZ t)), (2, .int (iZ v))]) hx hb dX5_isReachedWith_65 rfl hl (by decide) rfl (fun ls hl => ?_)
                  refine z_iinc (k := 1) (lv' := [(5, .int (iZ (w + 1))), (3, .int (iZ (zB (mT 0 S2 t y w)))), (4, .int (iZ y)), (0, .ref (am 0 0)), (1, .int (iZ t)), (2, .int (iZ v))]) hx hb dX5_isReachedWith_66 hl rfl (by decide) rfl (fun ls hl => ?_)
                  refine lv_goto (tgt := 42) hx hb dX5_isReachedWith_69 (by decide) ?_
                  exact ih42 (x2 := zB (mT 0 S2 t y w)) (w := (w + 1)) (S2 := S18) (h1b := by omega) (h5 := by exact h5.trans hS18) (h6 := by have q := zB_0 (by rw [← h6]; exact c12); rw [zB_iff (mT_eq (d := 0) h5 hIv (by omega) (by omega)), zB_iff (mEx2_s q (by omega))]) (h7 := by exact zB_R _) (hW := hW) (hk42 := by omega) (hI := hI) (hl := lv_sub hl [0, 2, 1, 3, 4, 5] rfl)
    · skip
      refine z_iconst hx hb dX5_isReachedWith_19 ?_
      exact (ze_i (u' := (n, am, S)) (z := 0) hx hb hr (iZ_narz (by omega) (by omega)).1 hI (by omega) ⟨S, rfl, mEq.rfl' S, (zB_f (mRch_le hah0 (by omega))).symm⟩ (Nat.le_of_ble_eq_true rfl) (Nat.le_of_ble_eq_true rfl) dX5_isReachedWith_20 hlocks)
  · skip
    refine z_iconst hx hb dX5_isReachedWith_8 ?_
    exact (ze_i (u' := (n, am, S)) (z := 1) hx hb hr (iZ_narz (by omega) (by omega)).1 hI (by omega) ⟨S, rfl, mEq.rfl' S, (zB_t (Or.inl c4)).symm⟩ (Nat.le_of_ble_eq_true rfl) (Nat.le_of_ble_eq_true rfl) dX5_isReachedWith_9 hlocks)
set_option maxHeartbeats 4000000 in
set_option maxRecDepth 100000 in
theorem c_X5_isReachedBehind_2 (l : Launch) (D : va_G) (cA : Nat → ClassId) (n : Nat → Nat) (am : ts_Am) (S : ts_St) (sz : Nat) (t a b v : Int) (hW : mW n S) (ht0 : 0 ≤ t ∧ t < 40) (hIv : mIv S t) (ha0 : 0 ≤ a ∧ a < S 0 0 0) (hb0 : 0 ≤ b ∧ b < S 0 0 0) (hv : v = 2) : Met l yX5_isReachedBehind wsX5_isReachedBehind ({ frames := 5, cells := 0, slots := 0, locals := 121 } : Room) (va_Pc [.ref (am 0 0), .int (iZ t), .int (iZ a), .int (iZ b), .int (iZ v)] (zP TM D cA (n, am, S) sz)) (zQi TM D cA (n, am, S) sz (fun z u => ∃ S9, u = (n, am, S9) ∧ mEq S S9 ∧ z = zB (mT 1 S t a b))) 0 0 (ts_A (n, am, S) sz) := by
  refine zM_of (by decide) rfl (Nat.le_of_ble_eq_true rfl) ?_
  intro p e s m below meth c hx hb hr hts hown hlocks hml hname hK hsz H locs hI ls hl
  subst hsz
  have hown : s.vm.findClass RX5 = some m.cls := hown
  have hl : lv_has ls 7 [(0, .ref (am 0 0)), (1, .int (iZ t)), (2, .int (iZ a)), (3, .int (iZ b)), (4, .int (iZ v))] := hl
  have f17 := hts (.fieldLink RX5 17 "DockyardSlotsModel" "counts" "[I") (by decide +kernel)
  have f20 := hts (.fieldLink RX5 20 "DockyardSlotsModel" "slots" "[I") (by decide +kernel)
  have LX5 : ∀ w ∈ wsX50, w.before [.ref (am 0 0), .int (iZ t), .int (iZ a), .int (iZ b), .int (iZ v)].toArray s = true := fun w h => hts w (List.mem_cons_of_mem _ (List.mem_append_left _ (List.mem_append_right _ h)))
  have hlc := hIv.1.1.1
  refine lv_iload_n hx hb dX5_isReachedBehind_0 rfl (lv_at hl 2 rfl) ?_
  refine lv_iload_n hx hb dX5_isReachedBehind_1 rfl (lv_at hl 3 rfl) ?_
  refine z_icmp_eq (tgt := 14) hx hb dX5_isReachedBehind_2 (by decide) (by omega) (by omega) (fun c1 => ?_) (fun c1 => ?_)
  · skip
    refine z_iconst hx hb dX5_isReachedBehind_14 ?_
    exact (ze_i (u' := (n, am, S)) (z := 0) hx hb hr (iZ_narz (by omega) (by omega)).1 hI (by omega) ⟨S, rfl, mEq.rfl' S, (zB_f (fun q => by have q1 := q.1.1; have q2 := q.1.2.1; omega)).symm⟩ (Nat.le_of_ble_eq_true rfl) (Nat.le_of_ble_eq_true rfl) dX5_isReachedBehind_15 hlocks)
  · skip
    refine lv_aload_n hx hb dX5_isReachedBehind_5 rfl (lv_at hl 0 rfl) ?_
    refine zg_r (κ := 0) (i := 0) (k := 3) (t := 3) (j := 0) hx hb LX5 hown hK hI (hW.1 0 (by decide)) rfl rfl (by decide) rfl f17 (fun _ h9 => h9) dX5_isReachedBehind_6 (hW.rf 3 rfl) (fun v2 => ?_)
    refine lv_iload_n hx hb dX5_isReachedBehind_9 rfl (lv_at hl 2 rfl) ?_
    refine za_i (κ := 3) (i := 0) hx hb hK hI v2 rfl (by omega) (by omega) (by omega) dX5_isReachedBehind_10 rfl (fun b3 => ?_)
    refine z_if_ne (tgt := 16) hx hb dX5_isReachedBehind_11 (by decide) (by omega) (fun c4 => ?_) (fun c4 => ?_)
    · skip
      have hcb := hIv.1.2.1 b.toNat
      have hca := hIv.1.2.1 a.toNat
      have htp : 0 ≤ S 4 0 (((3 * a) + S 3 0 a.toNat) - 1).toNat ∧ S 4 0 (((3 * a) + S 3 0 a.toNat) - 1).toNat < 40 := mTop_R hIv.1 hIv.2.1 (a := a) (by omega) (by omega)
      refine lv_aload_n hx hb dX5_isReachedBehind_16 rfl (lv_at hl 0 rfl) ?_
      refine zg_r (κ := 0) (i := 0) (k := 4) (t := 4) (j := 0) hx hb LX5 hown hK hI (hW.1 0 (by decide)) rfl rfl (by decide) rfl f20 (fun _ h9 => h9) dX5_isReachedBehind_17 (hW.rf 4 rfl) (fun v5 => ?_)
      refine z_iconst hx hb dX5_isReachedBehind_20 ?_
      refine lv_iload_n hx hb dX5_isReachedBehind_21 rfl (lv_at hl 2 rfl) ?_
      refine z_imul hx hb dX5_isReachedBehind_22 ?_
      refine lv_aload_n hx hb dX5_isReachedBehind_23 rfl (lv_at hl 0 rfl) ?_
      refine zg_r (κ := 0) (i := 0) (k := 3) (t := 3) (j := 0) hx hb LX5 hown hK hI (hW.1 0 (by decide)) rfl rfl (by decide) rfl f17 (fun _ h9 => h9) dX5_isReachedBehind_24 (hW.rf 3 rfl) (fun v6 => ?_)
      refine lv_iload_n hx hb dX5_isReachedBehind_27 rfl (lv_at hl 2 rfl) ?_
      refine za_i (κ := 3) (i := 0) hx hb hK hI v6 rfl (by omega) (by omega) (by omega) dX5_isReachedBehind_28 rfl (fun b7 => ?_)
      refine z_iadd hx hb dX5_isReachedBehind_29 ?_
      refine z_iconst hx hb dX5_isReachedBehind_30 ?_
      refine z_isub hx hb dX5_isReachedBehind_31 ?_
      refine za_i (κ := 4) (i := 0) hx hb hK hI v5 rfl (by omega) (by omega) (by omega) dX5_isReachedBehind_32 rfl (fun b8 => ?_)
      refine lv_istore (lv' := [(5, .int (iZ (S 4 0 ((((3 * a) + S 3 0 a.toNat) - 1).toNat)))), (0, .ref (am 0 0)), (1, .int (iZ t)), (2, .int (iZ a)), (3, .int (iZ b)), (4, .int (iZ v))]) hx hb dX5_isReachedBehind_33 hl (by decide) rfl (fun ls hl => ?_)
      refine lv_iload hx hb dX5_isReachedBehind_35 (lv_at hl 0 rfl) ?_
      refine lv_iload_n hx hb dX5_isReachedBehind_37 rfl (lv_at hl 2 rfl) ?_
      refine z_icmp_eq (tgt := 51) hx hb dX5_isReachedBehind_38 (by decide) (by omega) (by omega) (fun c9 => ?_) (fun c9 => ?_)
      · skip
        refine z_iconst hx hb dX5_isReachedBehind_51 ?_
        exact (ze_i (u' := (n, am, S)) (z := 0) hx hb hr (iZ_narz (by omega) (by omega)).1 hI (by omega) ⟨S, rfl, mEq.rfl' S, (zB_f (fun q => q.1.2.2.1 c9)).symm⟩ (Nat.le_of_ble_eq_true rfl) (Nat.le_of_ble_eq_true rfl) dX5_isReachedBehind_52 hlocks)
      · skip
        refine lv_aload_n hx hb dX5_isReachedBehind_41 rfl (lv_at hl 1 rfl) ?_
        refine lv_iload hx hb dX5_isReachedBehind_42 (lv_at hl 0 rfl) ?_
        refine lv_iload_n hx hb dX5_isReachedBehind_44 rfl (lv_at hl 4 rfl) ?_
        refine zc_i (zrV (As := [.int (iZ (S 4 0 ((((3 * a) + S 3 0 a.toNat) - 1).toNat))), .int (iZ b)]) (rest := []) (κ := 0) (i := 0) ⟨hx, hb, hml, hown, hts⟩ (c_X5_canCome l D cA n am S H.size (S 4 0 ((((3 * a) + S 3 0 a.toNat) - 1).toNat)) b hW (by omega) (by omega)) (cwV 2 hts gX5_isReachedBehind_X5_canCome rfl rfl rfl (by decide +kernel) ⟨Nat.le_of_ble_eq_true rfl, Nat.le_of_ble_eq_true rfl⟩) hK hI (hW.1 0 (by decide)) rfl rfl rfl hl.1 rfl (Nat.le_of_ble_eq_true rfl) dX5_isReachedBehind_45 ⟨Nat.le_of_ble_eq_true rfl, Nat.le_of_ble_eq_true rfl⟩) hI (fun z10 u9 H locs hz11 hp12 hI hfr => ?_)
        clear hfr
        obtain ⟨rfl, rfl⟩ := hp12
        refine z_if_ne (tgt := 53) hx hb dX5_isReachedBehind_48 (by decide) (by omega) (fun c13 => ?_) (fun c13 => ?_)
        · skip
          have c13 := zB_1 c13
          have hok : mOk S t a b := ⟨by omega, by omega, c9, c13⟩
          have hcap := mOk_cap hIv.1 hok
          refine lv_aload_n hx hb dX5_isReachedBehind_53 rfl (lv_at hl 1 rfl) ?_
          refine zg_r (κ := 0) (i := 0) (k := 3) (t := 3) (j := 0) hx hb LX5 hown hK hI (hW.1 0 (by decide)) rfl rfl (by decide) rfl f17 (fun _ h9 => h9) dX5_isReachedBehind_54 (hW.rf 3 rfl) (fun v14 => ?_)
          refine lv_iload_n hx hb dX5_isReachedBehind_57 rfl (lv_at hl 3 rfl) ?_
          refine lv_dup2_11 hx hb dX5_isReachedBehind_58 rfl rfl ?_
          refine za_i (κ := 3) (i := 0) hx hb hK hI v14 rfl (by omega) (by omega) (by omega) dX5_isReachedBehind_59 rfl (fun b15 => ?_)
          refine z_iconst hx hb dX5_isReachedBehind_60 ?_
          refine z_isub hx hb dX5_isReachedBehind_61 ?_
          refine zs_i (κ := 3) (i := 0) hx hb hK hI v14 rfl (by omega) (by omega) (by omega) (by omega) dX5_isReachedBehind_62 (fun H locs hI => ?_)
          obtain ⟨S16, eS16⟩ : ∃ z, z = up3 S 3 0 a.toNat (S 3 0 a.toNat - 1) := ⟨_, rfl⟩
          rw [← eS16] at hI
          have hW : mW n S16 := by rw [eS16]; exact hW.put rfl
          refine lv_aload_n hx hb dX5_isReachedBehind_63 rfl (lv_at hl 1 rfl) ?_
          refine lv_iload hx hb dX5_isReachedBehind_64 (lv_at hl 0 rfl) ?_
          refine lv_iload_n hx hb dX5_isReachedBehind_66 rfl (lv_at hl 4 rfl) ?_
          refine zc_v (zrV (As := [.int (iZ (S 4 0 ((((3 * a) + S 3 0 a.toNat) - 1).toNat))), .int (iZ b)]) (rest := []) (κ := 0) (i := 0) ⟨hx, hb, hml, hown, hts⟩ (c_X5_comes l D cA n am S16 H.size (S 4 0 ((((3 * a) + S 3 0 a.toNat) - 1).toNat)) b hW (by omega) (by omega) (by rw [eS16, up3_n (by omega)]; omega)) (cwV 2 hts gX5_isReachedBehind_X5_comes rfl rfl rfl (by decide +kernel) ⟨Nat.le_of_ble_eq_true rfl, Nat.le_of_ble_eq_true rfl⟩) hK hI (hW.1 0 (by decide)) rfl rfl rfl hl.1 rfl (Nat.le_of_ble_eq_true rfl) dX5_isReachedBehind_67 ⟨Nat.le_of_ble_eq_true rfl, Nat.le_of_ble_eq_true rfl⟩) hI (fun u9 H locs hp17 hI hfr => ?_)
          clear hfr
          obtain rfl := hp17
          obtain ⟨S18, eS18⟩ : ∃ z, z = mComes S16 (S 4 0 ((((3 * a) + S 3 0 a.toNat) - 1).toNat)) b := ⟨_, rfl⟩
          rw [← eS18] at hI
          have hW : mW n S18 := by rw [eS18]; exact (hW.put rfl).put rfl
          have hms : S18 = mMv S a b := by rw [eS18, eS16]; rfl
          refine lv_aload_n hx hb dX5_isReachedBehind_70 rfl (lv_at hl 1 rfl) ?_
          refine lv_iload_n hx hb dX5_isReachedBehind_71 rfl (lv_at hl 2 rfl) ?_
          refine lv_iload hx hb dX5_isReachedBehind_72 (lv_at hl 5 rfl) ?_
          refine z_iconst hx hb dX5_isReachedBehind_74 ?_
          refine z_isub hx hb dX5_isReachedBehind_75 ?_
          refine zc_i (zrV (As := [.int (iZ t), .int (iZ (v - 1))]) (rest := []) (κ := 0) (i := 0) ⟨hx, hb, hml, hown, hts⟩ (c_X5_isReachedWith_1 l D cA n am S18 H.size t (v - 1) hW (by omega) (by rw [hms]; exact mMv_Iv hIv (by omega) (by omega) hok) (by omega)) (cwV 2 hts gX5_isReachedBehind_X5_isReachedWith rfl rfl rfl (by decide +kernel) ⟨Nat.le_of_ble_eq_true rfl, Nat.le_of_ble_eq_true rfl⟩) hK hI (hW.1 0 (by decide)) rfl rfl rfl hl.1 rfl (Nat.le_of_ble_eq_true rfl) dX5_isReachedBehind_76 ⟨Nat.le_of_ble_eq_true rfl, Nat.le_of_ble_eq_true rfl⟩) hI (fun z19 u9 H locs hz20 hp21 hI hfr => ?_)
          clear hfr
          obtain ⟨S22, rfl, hS22, rfl⟩ := hp21
          have hW : mW n S22 := hS22.W hW
          rw [hms] at hS22
          have hmv := hS22
          have hmb : S22 3 0 b.toNat = S 3 0 b.toNat + 1 := by rw [hS22.c, mMv_3 hok.1 (by omega) (by omega), if_neg (by omega), if_pos rfl]
          have hma : S22 3 0 a.toNat = S 3 0 a.toNat - 1 := by rw [hS22.c, mMv_3 hok.1 (by omega) (by omega), if_pos rfl]
          rw [hms]
          refine lv_istore (lv' := [(6, .int (iZ (zB (mRch 1 (mMv S a b) t)))), (5, .int (iZ (S 4 0 ((((3 * a) + S 3 0 a.toNat) - 1).toNat)))), (0, .ref (am 0 0)), (1, .int (iZ t)), (2, .int (iZ a)), (3, .int (iZ b)), (4, .int (iZ v))]) hx hb dX5_isReachedBehind_79 hl (by decide) rfl (fun ls hl => ?_)
          refine lv_aload_n hx hb dX5_isReachedBehind_81 rfl (lv_at hl 2 rfl) ?_
          refine zg_r (κ := 0) (i := 0) (k := 3) (t := 3) (j := 0) hx hb LX5 hown hK hI (hW.1 0 (by decide)) rfl rfl (by decide) rfl f17 (fun _ h9 => h9) dX5_isReachedBehind_82 (hW.rf 3 rfl) (fun v23 => ?_)
          refine lv_iload_n hx hb dX5_isReachedBehind_85 rfl (lv_at hl 5 rfl) ?_
          refine lv_dup2_11 hx hb dX5_isReachedBehind_86 rfl rfl ?_
          refine za_i (κ := 3) (i := 0) hx hb hK hI v23 rfl (by omega) (by omega) (by omega) dX5_isReachedBehind_87 rfl (fun b24 => ?_)
          refine z_iconst hx hb dX5_isReachedBehind_88 ?_
          refine z_isub hx hb dX5_isReachedBehind_89 ?_
          refine zs_i (κ := 3) (i := 0) hx hb hK hI v23 rfl (by omega) (by omega) (by omega) (by omega) dX5_isReachedBehind_90 (fun H locs hI => ?_)
          obtain ⟨S25, eS25⟩ : ∃ z, z = up3 S22 3 0 b.toNat (S22 3 0 b.toNat - 1) := ⟨_, rfl⟩
          rw [← eS25] at hI
          have hW : mW n S25 := by rw [eS25]; exact hW.put rfl
          refine lv_aload_n hx hb dX5_isReachedBehind_91 rfl (lv_at hl 2 rfl) ?_
          refine lv_iload hx hb dX5_isReachedBehind_92 (lv_at hl 1 rfl) ?_
          refine lv_iload_n hx hb dX5_isReachedBehind_94 rfl (lv_at hl 4 rfl) ?_
          refine zc_v (zrV (As := [.int (iZ (S 4 0 ((((3 * a) + S 3 0 a.toNat) - 1).toNat))), .int (iZ a)]) (rest := []) (κ := 0) (i := 0) ⟨hx, hb, hml, hown, hts⟩ (c_X5_comes l D cA n am S25 H.size (S 4 0 ((((3 * a) + S 3 0 a.toNat) - 1).toNat)) a hW (by omega) (by omega) (by rw [eS25, up3_n (by omega)]; omega)) (cwV 2 hts gX5_isReachedBehind_X5_comes rfl rfl rfl (by decide +kernel) ⟨Nat.le_of_ble_eq_true rfl, Nat.le_of_ble_eq_true rfl⟩) hK hI (hW.1 0 (by decide)) rfl rfl rfl hl.1 rfl (Nat.le_of_ble_eq_true rfl) dX5_isReachedBehind_95 ⟨Nat.le_of_ble_eq_true rfl, Nat.le_of_ble_eq_true rfl⟩) hI (fun u9 H locs hp26 hI hfr => ?_)
          clear hfr
          obtain rfl := hp26
          obtain ⟨S27, eS27⟩ : ∃ z, z = mComes S25 (S 4 0 ((((3 * a) + S 3 0 a.toNat) - 1).toNat)) a := ⟨_, rfl⟩
          rw [← eS27] at hI
          have hW : mW n S27 := by rw [eS27]; exact (hW.put rfl).put rfl
          refine lv_iload hx hb dX5_isReachedBehind_98 (lv_at hl 0 rfl) ?_
          exact (ze_i (u' := (n, am, S27)) (z := zB (mRch 1 (mMv S a b) t)) hx hb hr (iZ_narz (zB_R _).1 (zB_R _).2).1 hI (zB_iR _) ⟨S27, rfl, by rw [eS27, eS25]; exact mBack hIv.1.2.1 hok.1 (by omega) (by omega) hok.2.1 (mOk_cap hIv.1 hok) hmv, zB_iff ⟨fun q => ⟨hok, q⟩, fun q => q.2⟩⟩ (Nat.le_of_ble_eq_true rfl) (Nat.le_of_ble_eq_true rfl) dX5_isReachedBehind_100 hlocks)
        · skip
          have c13 := zB_0 c13
          refine z_iconst hx hb dX5_isReachedBehind_51 ?_
          exact (ze_i (u' := (n, am, S)) (z := 0) hx hb hr (iZ_narz (by omega) (by omega)).1 hI (by omega) ⟨S, rfl, mEq.rfl' S, (zB_f (fun q => c13 q.1.2.2.2)).symm⟩ (Nat.le_of_ble_eq_true rfl) (Nat.le_of_ble_eq_true rfl) dX5_isReachedBehind_52 hlocks)
    · skip
      refine z_iconst hx hb dX5_isReachedBehind_14 ?_
      exact (ze_i (u' := (n, am, S)) (z := 0) hx hb hr (iZ_narz (by omega) (by omega)).1 hI (by omega) ⟨S, rfl, mEq.rfl' S, (zB_f (fun q => by have q1 := q.1.1; have q2 := q.1.2.1; omega)).symm⟩ (Nat.le_of_ble_eq_true rfl) (Nat.le_of_ble_eq_true rfl) dX5_isReachedBehind_15 hlocks)
set_option maxHeartbeats 4000000 in
set_option maxRecDepth 100000 in
theorem c_X5_isReachedWith_2 (l : Launch) (D : va_G) (cA : Nat → ClassId) (n : Nat → Nat) (am : ts_Am) (S : ts_St) (sz : Nat) (t v : Int) (hW : mW n S) (ht0 : 0 ≤ t ∧ t < 40) (hIv : mIv S t) (hv : v = 2) : Met l yX5_isReachedWith wsX5_isReachedWith ({ frames := 6, cells := 0, slots := 0, locals := 147 } : Room) (va_Pc [.ref (am 0 0), .int (iZ t), .int (iZ v)] (zP TM D cA (n, am, S) sz)) (zQi TM D cA (n, am, S) sz (fun z u => ∃ S9, u = (n, am, S9) ∧ mEq S S9 ∧ z = zB (mRch 2 S t))) 0 0 (ts_A (n, am, S) sz) := by
  refine zM_of (by decide) rfl (Nat.le_of_ble_eq_true rfl) ?_
  intro p e s m below meth c hx hb hr hts hown hlocks hml hname hK hsz H locs hI ls hl
  subst hsz
  have hown : s.vm.findClass RX5 = some m.cls := hown
  have hl : lv_has ls 6 [(0, .ref (am 0 0)), (1, .int (iZ t)), (2, .int (iZ v))] := hl
  have f70 := hts (.fieldLink RX5 70 "DockyardSlotsModel" "lanes" "I") (by decide +kernel)
  have LX5 : ∀ w ∈ wsX50, w.before [.ref (am 0 0), .int (iZ t), .int (iZ v)].toArray s = true := fun w h => hts w (List.mem_cons_of_mem _ (List.mem_append_left _ (List.mem_append_right _ h)))
  have hlc := hIv.1.1.1
  have hsr := mSlot_R (S := S) (t := t) hlc.2 hIv.1.2.1
  have hsi := hIv.2.2
  have hahR := mAhead_R hIv.1.2.1 hIv.2.2
  refine lv_aload_n hx hb dX5_isReachedWith_0 rfl (lv_at hl 0 rfl) ?_
  refine lv_iload_n hx hb dX5_isReachedWith_1 rfl (lv_at hl 1 rfl) ?_
  refine zc_i (zrV (As := [.int (iZ t)]) (rest := []) (κ := 0) (i := 0) ⟨hx, hb, hml, hown, hts⟩ (c_X5_ahead l D cA n am S H.size t hW (by omega) hIv.1.1.1 hIv.1.2.1 (by omega)) (cwV 1 hts gX5_isReachedWith_X5_ahead rfl rfl rfl (by decide +kernel) ⟨Nat.le_of_ble_eq_true rfl, Nat.le_of_ble_eq_true rfl⟩) hK hI (hW.1 0 (by decide)) rfl rfl rfl hl.1 rfl (Nat.le_of_ble_eq_true rfl) dX5_isReachedWith_2 ⟨Nat.le_of_ble_eq_true rfl, Nat.le_of_ble_eq_true rfl⟩) hI (fun z1 u9 H locs hz2 hp3 hI hfr => ?_)
  clear hfr
  obtain ⟨rfl, rfl⟩ := hp3
  refine z_if_ne (tgt := 10) hx hb dX5_isReachedWith_5 (by decide) (by omega) (fun c4 => ?_) (fun c4 => ?_)
  · skip
    have hah0 := c4
    refine lv_aload_n hx hb dX5_isReachedWith_10 rfl (lv_at hl 0 rfl) ?_
    refine lv_iload_n hx hb dX5_isReachedWith_11 rfl (lv_at hl 1 rfl) ?_
    refine zc_i (zrV (As := [.int (iZ t)]) (rest := []) (κ := 0) (i := 0) ⟨hx, hb, hml, hown, hts⟩ (c_X5_ahead l D cA n am S H.size t hW (by omega) hIv.1.1.1 hIv.1.2.1 (by omega)) (cwV 1 hts gX5_isReachedWith_X5_ahead rfl rfl rfl (by decide +kernel) ⟨Nat.le_of_ble_eq_true rfl, Nat.le_of_ble_eq_true rfl⟩) hK hI (hW.1 0 (by decide)) rfl rfl rfl hl.1 rfl (Nat.le_of_ble_eq_true rfl) dX5_isReachedWith_12 ⟨Nat.le_of_ble_eq_true rfl, Nat.le_of_ble_eq_true rfl⟩) hI (fun z5 u9 H locs hz6 hp7 hI hfr => ?_)
    clear hfr
    obtain ⟨rfl, rfl⟩ := hp7
    refine lv_iload_n hx hb dX5_isReachedWith_15 rfl (lv_at hl 2 rfl) ?_
    refine z_icmp_le (tgt := 21) hx hb dX5_isReachedWith_16 (by decide) (by omega) (by omega) (fun c8 => ?_) (fun c8 => ?_)
    · skip
      refine z_iconst hx hb dX5_isReachedWith_21 ?_
      refine lv_istore_n (lv' := [(3, .int (iZ 0)), (0, .ref (am 0 0)), (1, .int (iZ t)), (2, .int (iZ v))]) hx hb dX5_isReachedWith_22 rfl hl (by decide) rfl (fun ls hl => ?_)
      refine z_iconst hx hb dX5_isReachedWith_23 ?_
      refine lv_istore (lv' := [(4, .int (iZ 0)), (3, .int (iZ 0)), (0, .ref (am 0 0)), (1, .int (iZ t)), (2, .int (iZ v))]) hx hb dX5_isReachedWith_24 hl (by decide) rfl (fun ls hl => ?_)
      obtain ⟨x, e_x⟩ : ∃ z : Int, z = 0 := ⟨_, rfl⟩
      obtain ⟨y, e_y⟩ : ∃ z : Int, z = 0 := ⟨_, rfl⟩
      replace hl : lv_has ls 6 [(4, .int (iZ y)), (3, .int (iZ x)), (0, .ref (am 0 0)), (1, .int (iZ t)), (2, .int (iZ v))] := by rw [e_x, e_y]; exact hl
      obtain ⟨S1, e_S1⟩ : ∃ z, z = S := ⟨_, rfl⟩
      rw [← e_S1] at hI
      replace hW : mW n S1 := by rw [e_S1]; exact hW
      have h1 : 0 ≤ y ∧ y ≤ S 0 0 0 := by have := hIv.1.1.1; omega
      have h2 : mEq S S1 := by rw [e_S1]; exact mEq.rfl' S
      have h3 : x = zB (mEx 1 S t y) := by rw [e_x, e_y]; exact (zB_f mEx_0).symm
      have h4 : 0 ≤ x ∧ x < 2 := by omega
      obtain ⟨k26, hk26⟩ : ∃ k : Nat, S 0 0 0 - y < (k : Int) := ⟨(S 0 0 0 - y).toNat + 1, by omega⟩
      clear e_x e_y e_S1
      induction k26 generalizing x y S1 H locs ls with
      | zero => omega
      | succ k26 ih26 =>
        have h10 := h2.1 0 0 0 (by decide)
        refine lv_iload_n hx hb dX5_isReachedWith_26 rfl (lv_at hl 1 rfl) ?_
        refine z_if_ne (tgt := 78) hx hb dX5_isReachedWith_27 (by decide) (by omega) (fun c9 => ?_) (fun c9 => ?_)
        · skip
          refine lv_iload_n hx hb dX5_isReachedWith_78 rfl (lv_at hl 1 rfl) ?_
          exact (ze_i (u' := (n, am, S1)) (z := x) hx hb hr (iZ_narz (by omega) (by omega)).1 hI (by omega) ⟨S1, rfl, h2, by rw [h3] at c9 ⊢; rw [zB_t (zB_1 c9), zB_t (mRch_ex hah0 (by omega) (zB_1 c9) (by omega))]⟩ (Nat.le_of_ble_eq_true rfl) (Nat.le_of_ble_eq_true rfl) dX5_isReachedWith_79 hlocks)
        · skip
          refine lv_iload hx hb dX5_isReachedWith_30 (lv_at hl 0 rfl) ?_
          refine lv_aload_n hx hb dX5_isReachedWith_32 rfl (lv_at hl 2 rfl) ?_
          refine zg_i (κ := 0) (i := 0) (k := 0) hx hb LX5 hown hK hI (hW.1 0 (by decide)) rfl rfl (by decide) rfl f70 (fun _ h9 => h9) dX5_isReachedWith_33 rfl (fun b10 => ?_)
          refine z_icmp_ge (tgt := 78) hx hb dX5_isReachedWith_36 (by decide) (by omega) (by omega) (fun c11 => ?_) (fun c11 => ?_)
          · skip
            refine lv_iload_n hx hb dX5_isReachedWith_78 rfl (lv_at hl 1 rfl) ?_
            exact (ze_i (u' := (n, am, S1)) (z := x) hx hb hr (iZ_narz (by omega) (by omega)).1 hI (by omega) ⟨S1, rfl, h2, by rw [h3] at c9 ⊢; rw [zB_f (zB_0 c9), zB_f (mRch_nex hah0 (zB_0 c9) (by omega))]⟩ (Nat.le_of_ble_eq_true rfl) (Nat.le_of_ble_eq_true rfl) dX5_isReachedWith_79 hlocks)
          · skip
            refine z_iconst hx hb dX5_isReachedWith_39 ?_
            refine lv_istore (lv' := [(5, .int (iZ 0)), (4, .int (iZ y)), (3, .int (iZ x)), (0, .ref (am 0 0)), (1, .int (iZ t)), (2, .int (iZ v))]) hx hb dX5_isReachedWith_40 hl (by decide) rfl (fun ls hl => ?_)
            obtain ⟨x2, e_x2⟩ : ∃ z : Int, z = x := ⟨_, rfl⟩
            obtain ⟨w, e_w⟩ : ∃ z : Int, z = 0 := ⟨_, rfl⟩
            replace hl : lv_has ls 6 [(5, .int (iZ w)), (4, .int (iZ y)), (3, .int (iZ x2)), (0, .ref (am 0 0)), (1, .int (iZ t)), (2, .int (iZ v))] := by rw [e_x2, e_w]; exact hl
            obtain ⟨S2, e_S2⟩ : ∃ z, z = S1 := ⟨_, rfl⟩
            rw [← e_S2] at hI
            replace hW : mW n S2 := by rw [e_S2]; exact hW
            have h1b : 0 ≤ w ∧ w ≤ S 0 0 0 := by have := hIv.1.1.1; omega
            have h5 : mEq S S2 := by rw [e_S2]; exact h2
            have h6 : x2 = zB (mEx2 1 S t y w) := by rw [e_x2, e_w, h3]; exact (zB_iff mEx2_0).symm
            have h7 : 0 ≤ x2 ∧ x2 < 2 := by omega
            obtain ⟨k42, hk42⟩ : ∃ k : Nat, S 0 0 0 - w < (k : Int) := ⟨(S 0 0 0 - w).toNat + 1, by omega⟩
            clear e_x2 e_w e_S2
            induction k42 generalizing x2 w S2 H locs ls with
            | zero => omega
            | succ k42 ih42 =>
              have h11 := h5.1 0 0 0 (by decide)
              refine lv_iload_n hx hb dX5_isReachedWith_42 rfl (lv_at hl 2 rfl) ?_
              refine z_if_ne (tgt := 72) hx hb dX5_isReachedWith_43 (by decide) (by omega) (fun c12 => ?_) (fun c12 => ?_)
              · skip
                refine z_iinc (k := 1) (lv' := [(4, .int (iZ (y + 1))), (5, .int (iZ w)), (3, .int (iZ x2)), (0, .ref (am 0 0)), (1, .int (iZ t)), (2, .int (iZ v))]) hx hb dX5_isReachedWith_72 hl rfl (by decide) rfl (fun ls hl => ?_)
                refine lv_goto (tgt := 26) hx hb dX5_isReachedWith_75 (by decide) ?_
                exact ih26 (x := x2) (y := (y + 1)) (S1 := S2) (h1 := by omega) (h2 := by exact h5) (h3 := by rw [h6] at c12 ⊢; have q := zB_1 c12; rw [zB_t q, zB_t (mEx_s (by omega) q (by omega))]) (h4 := by omega) (hW := hW) (hk26 := by omega) (hI := hI) (hl := lv_sub hl [0, 2, 3, 4, 5] rfl)
              · skip
                have hIv2 := h5.Iv hIv
                have hlc := hIv.1.1.1
                refine lv_iload hx hb dX5_isReachedWith_46 (lv_at hl 0 rfl) ?_
                refine lv_aload_n hx hb dX5_isReachedWith_48 rfl (lv_at hl 3 rfl) ?_
                refine zg_i (κ := 0) (i := 0) (k := 0) hx hb LX5 hown hK hI (hW.1 0 (by decide)) rfl rfl (by decide) rfl f70 (fun _ h9 => h9) dX5_isReachedWith_49 rfl (fun b13 => ?_)
                refine z_icmp_ge (tgt := 72) hx hb dX5_isReachedWith_52 (by decide) (by omega) (by omega) (fun c14 => ?_) (fun c14 => ?_)
                · skip
                  refine z_iinc (k := 1) (lv' := [(4, .int (iZ (y + 1))), (5, .int (iZ w)), (3, .int (iZ x2)), (0, .ref (am 0 0)), (1, .int (iZ t)), (2, .int (iZ v))]) hx hb dX5_isReachedWith_72 hl rfl (by decide) rfl (fun ls hl => ?_)
                  refine lv_goto (tgt := 26) hx hb dX5_isReachedWith_75 (by decide) ?_
                  exact ih26 (x := x2) (y := (y + 1)) (S1 := S2) (h1 := by omega) (h2 := by exact h5) (h3 := by rw [h6] at c12 ⊢; have q := zB_0 c12; rw [zB_f q, zB_f (mEx_n q (by omega))]) (h4 := by omega) (hW := hW) (hk26 := by omega) (hI := hI) (hl := lv_sub hl [0, 2, 3, 4, 5] rfl)
                · skip
                  refine lv_aload_n hx hb dX5_isReachedWith_55 rfl (lv_at hl 3 rfl) ?_
                  refine lv_iload_n hx hb dX5_isReachedWith_56 rfl (lv_at hl 4 rfl) ?_
                  refine lv_iload hx hb dX5_isReachedWith_57 (lv_at hl 1 rfl) ?_
                  refine lv_iload hx hb dX5_isReachedWith_59 (lv_at hl 0 rfl) ?_
                  refine lv_iload_n hx hb dX5_isReachedWith_61 rfl (lv_at hl 5 rfl) ?_
                  refine zc_i (zrV (As := [.int (iZ t), .int (iZ y), .int (iZ w), .int (iZ v)]) (rest := []) (κ := 0) (i := 0) ⟨hx, hb, hml, hown, hts⟩ (c_X5_isReachedBehind_2 l D cA n am S2 H.size t y w v hW (by omega) hIv2 (by omega) (by omega) (by omega)) (cwV 4 hts gX5_isReachedWith_X5_isReachedBehind rfl rfl rfl (by decide +kernel) ⟨Nat.le_of_ble_eq_true rfl, Nat.le_of_ble_eq_true rfl⟩) hK hI (hW.1 0 (by decide)) rfl rfl rfl hl.1 rfl (Nat.le_of_ble_eq_true rfl) dX5_isReachedWith_62 ⟨Nat.le_of_ble_eq_true rfl, Nat.le_of_ble_eq_true rfl⟩) hI (fun z15 u9 H locs hz16 hp17 hI hfr => ?_)
                  clear hfr
                  obtain ⟨S18, rfl, hS18, rfl⟩ := hp17
                  have hW : mW n S18 := hS18.W hW
                  refine lv_istore_n (lv' := [(3, .int (iZ (zB (mT 1 S2 t y w)))), (5, .int (iZ w)), (4, .int (iZ y)), (0, .ref (am 0 0)), (1, .int (iZ t)), (2, .int (iZ v))]) hx hb dX5_isReachedWith_65 rfl hl (by decide) rfl (fun ls hl => ?_)
                  refine z_iinc (k := 1) (lv' := [(5, .int (iZ (w + 1))), (3, .int (iZ (zB (mT 1 S2 t y w)))), (4, .int (iZ y)), (0, .ref (am 0 0)), (1, .int (iZ t)), (2, .int (iZ v))]) hx hb dX5_isReachedWith_66 hl rfl (by decide) rfl (fun ls hl => ?_)
                  refine lv_goto (tgt := 42) hx hb dX5_isReachedWith_69 (by decide) ?_
                  exact ih42 (x2 := zB (mT 1 S2 t y w)) (w := (w + 1)) (S2 := S18) (h1b := by omega) (h5 := by exact h5.trans hS18) (h6 := by have q := zB_0 (by rw [← h6]; exact c12); rw [zB_iff (mT_eq (d := 1) h5 hIv (by omega) (by omega)), zB_iff (mEx2_s q (by omega))]) (h7 := by exact zB_R _) (hW := hW) (hk42 := by omega) (hI := hI) (hl := lv_sub hl [0, 2, 1, 3, 4, 5] rfl)
    · skip
      refine z_iconst hx hb dX5_isReachedWith_19 ?_
      exact (ze_i (u' := (n, am, S)) (z := 0) hx hb hr (iZ_narz (by omega) (by omega)).1 hI (by omega) ⟨S, rfl, mEq.rfl' S, (zB_f (mRch_le hah0 (by omega))).symm⟩ (Nat.le_of_ble_eq_true rfl) (Nat.le_of_ble_eq_true rfl) dX5_isReachedWith_20 hlocks)
  · skip
    refine z_iconst hx hb dX5_isReachedWith_8 ?_
    exact (ze_i (u' := (n, am, S)) (z := 1) hx hb hr (iZ_narz (by omega) (by omega)).1 hI (by omega) ⟨S, rfl, mEq.rfl' S, (zB_t (Or.inl c4)).symm⟩ (Nat.le_of_ble_eq_true rfl) (Nat.le_of_ble_eq_true rfl) dX5_isReachedWith_9 hlocks)
set_option maxHeartbeats 4000000 in
set_option maxRecDepth 100000 in
theorem c_X5_isReachedBehind_3 (l : Launch) (D : va_G) (cA : Nat → ClassId) (n : Nat → Nat) (am : ts_Am) (S : ts_St) (sz : Nat) (t a b v : Int) (hW : mW n S) (ht0 : 0 ≤ t ∧ t < 40) (hIv : mIv S t) (ha0 : 0 ≤ a ∧ a < S 0 0 0) (hb0 : 0 ≤ b ∧ b < S 0 0 0) (hv : v = 3) : Met l yX5_isReachedBehind wsX5_isReachedBehind ({ frames := 7, cells := 0, slots := 0, locals := 172 } : Room) (va_Pc [.ref (am 0 0), .int (iZ t), .int (iZ a), .int (iZ b), .int (iZ v)] (zP TM D cA (n, am, S) sz)) (zQi TM D cA (n, am, S) sz (fun z u => ∃ S9, u = (n, am, S9) ∧ mEq S S9 ∧ z = zB (mT 2 S t a b))) 0 0 (ts_A (n, am, S) sz) := by
  refine zM_of (by decide) rfl (Nat.le_of_ble_eq_true rfl) ?_
  intro p e s m below meth c hx hb hr hts hown hlocks hml hname hK hsz H locs hI ls hl
  subst hsz
  have hown : s.vm.findClass RX5 = some m.cls := hown
  have hl : lv_has ls 7 [(0, .ref (am 0 0)), (1, .int (iZ t)), (2, .int (iZ a)), (3, .int (iZ b)), (4, .int (iZ v))] := hl
  have f17 := hts (.fieldLink RX5 17 "DockyardSlotsModel" "counts" "[I") (by decide +kernel)
  have f20 := hts (.fieldLink RX5 20 "DockyardSlotsModel" "slots" "[I") (by decide +kernel)
  have LX5 : ∀ w ∈ wsX50, w.before [.ref (am 0 0), .int (iZ t), .int (iZ a), .int (iZ b), .int (iZ v)].toArray s = true := fun w h => hts w (List.mem_cons_of_mem _ (List.mem_append_left _ (List.mem_append_right _ h)))
  have hlc := hIv.1.1.1
  refine lv_iload_n hx hb dX5_isReachedBehind_0 rfl (lv_at hl 2 rfl) ?_
  refine lv_iload_n hx hb dX5_isReachedBehind_1 rfl (lv_at hl 3 rfl) ?_
  refine z_icmp_eq (tgt := 14) hx hb dX5_isReachedBehind_2 (by decide) (by omega) (by omega) (fun c1 => ?_) (fun c1 => ?_)
  · skip
    refine z_iconst hx hb dX5_isReachedBehind_14 ?_
    exact (ze_i (u' := (n, am, S)) (z := 0) hx hb hr (iZ_narz (by omega) (by omega)).1 hI (by omega) ⟨S, rfl, mEq.rfl' S, (zB_f (fun q => by have q1 := q.1.1; have q2 := q.1.2.1; omega)).symm⟩ (Nat.le_of_ble_eq_true rfl) (Nat.le_of_ble_eq_true rfl) dX5_isReachedBehind_15 hlocks)
  · skip
    refine lv_aload_n hx hb dX5_isReachedBehind_5 rfl (lv_at hl 0 rfl) ?_
    refine zg_r (κ := 0) (i := 0) (k := 3) (t := 3) (j := 0) hx hb LX5 hown hK hI (hW.1 0 (by decide)) rfl rfl (by decide) rfl f17 (fun _ h9 => h9) dX5_isReachedBehind_6 (hW.rf 3 rfl) (fun v2 => ?_)
    refine lv_iload_n hx hb dX5_isReachedBehind_9 rfl (lv_at hl 2 rfl) ?_
    refine za_i (κ := 3) (i := 0) hx hb hK hI v2 rfl (by omega) (by omega) (by omega) dX5_isReachedBehind_10 rfl (fun b3 => ?_)
    refine z_if_ne (tgt := 16) hx hb dX5_isReachedBehind_11 (by decide) (by omega) (fun c4 => ?_) (fun c4 => ?_)
    · skip
      have hcb := hIv.1.2.1 b.toNat
      have hca := hIv.1.2.1 a.toNat
      have htp : 0 ≤ S 4 0 (((3 * a) + S 3 0 a.toNat) - 1).toNat ∧ S 4 0 (((3 * a) + S 3 0 a.toNat) - 1).toNat < 40 := mTop_R hIv.1 hIv.2.1 (a := a) (by omega) (by omega)
      refine lv_aload_n hx hb dX5_isReachedBehind_16 rfl (lv_at hl 0 rfl) ?_
      refine zg_r (κ := 0) (i := 0) (k := 4) (t := 4) (j := 0) hx hb LX5 hown hK hI (hW.1 0 (by decide)) rfl rfl (by decide) rfl f20 (fun _ h9 => h9) dX5_isReachedBehind_17 (hW.rf 4 rfl) (fun v5 => ?_)
      refine z_iconst hx hb dX5_isReachedBehind_20 ?_
      refine lv_iload_n hx hb dX5_isReachedBehind_21 rfl (lv_at hl 2 rfl) ?_
      refine z_imul hx hb dX5_isReachedBehind_22 ?_
      refine lv_aload_n hx hb dX5_isReachedBehind_23 rfl (lv_at hl 0 rfl) ?_
      refine zg_r (κ := 0) (i := 0) (k := 3) (t := 3) (j := 0) hx hb LX5 hown hK hI (hW.1 0 (by decide)) rfl rfl (by decide) rfl f17 (fun _ h9 => h9) dX5_isReachedBehind_24 (hW.rf 3 rfl) (fun v6 => ?_)
      refine lv_iload_n hx hb dX5_isReachedBehind_27 rfl (lv_at hl 2 rfl) ?_
      refine za_i (κ := 3) (i := 0) hx hb hK hI v6 rfl (by omega) (by omega) (by omega) dX5_isReachedBehind_28 rfl (fun b7 => ?_)
      refine z_iadd hx hb dX5_isReachedBehind_29 ?_
      refine z_iconst hx hb dX5_isReachedBehind_30 ?_
      refine z_isub hx hb dX5_isReachedBehind_31 ?_
      refine za_i (κ := 4) (i := 0) hx hb hK hI v5 rfl (by omega) (by omega) (by omega) dX5_isReachedBehind_32 rfl (fun b8 => ?_)
      refine lv_istore (lv' := [(5, .int (iZ (S 4 0 ((((3 * a) + S 3 0 a.toNat) - 1).toNat)))), (0, .ref (am 0 0)), (1, .int (iZ t)), (2, .int (iZ a)), (3, .int (iZ b)), (4, .int (iZ v))]) hx hb dX5_isReachedBehind_33 hl (by decide) rfl (fun ls hl => ?_)
      refine lv_iload hx hb dX5_isReachedBehind_35 (lv_at hl 0 rfl) ?_
      refine lv_iload_n hx hb dX5_isReachedBehind_37 rfl (lv_at hl 2 rfl) ?_
      refine z_icmp_eq (tgt := 51) hx hb dX5_isReachedBehind_38 (by decide) (by omega) (by omega) (fun c9 => ?_) (fun c9 => ?_)
      · skip
        refine z_iconst hx hb dX5_isReachedBehind_51 ?_
        exact (ze_i (u' := (n, am, S)) (z := 0) hx hb hr (iZ_narz (by omega) (by omega)).1 hI (by omega) ⟨S, rfl, mEq.rfl' S, (zB_f (fun q => q.1.2.2.1 c9)).symm⟩ (Nat.le_of_ble_eq_true rfl) (Nat.le_of_ble_eq_true rfl) dX5_isReachedBehind_52 hlocks)
      · skip
        refine lv_aload_n hx hb dX5_isReachedBehind_41 rfl (lv_at hl 1 rfl) ?_
        refine lv_iload hx hb dX5_isReachedBehind_42 (lv_at hl 0 rfl) ?_
        refine lv_iload_n hx hb dX5_isReachedBehind_44 rfl (lv_at hl 4 rfl) ?_
        refine zc_i (zrV (As := [.int (iZ (S 4 0 ((((3 * a) + S 3 0 a.toNat) - 1).toNat))), .int (iZ b)]) (rest := []) (κ := 0) (i := 0) ⟨hx, hb, hml, hown, hts⟩ (c_X5_canCome l D cA n am S H.size (S 4 0 ((((3 * a) + S 3 0 a.toNat) - 1).toNat)) b hW (by omega) (by omega)) (cwV 2 hts gX5_isReachedBehind_X5_canCome rfl rfl rfl (by decide +kernel) ⟨Nat.le_of_ble_eq_true rfl, Nat.le_of_ble_eq_true rfl⟩) hK hI (hW.1 0 (by decide)) rfl rfl rfl hl.1 rfl (Nat.le_of_ble_eq_true rfl) dX5_isReachedBehind_45 ⟨Nat.le_of_ble_eq_true rfl, Nat.le_of_ble_eq_true rfl⟩) hI (fun z10 u9 H locs hz11 hp12 hI hfr => ?_)
        clear hfr
        obtain ⟨rfl, rfl⟩ := hp12
        refine z_if_ne (tgt := 53) hx hb dX5_isReachedBehind_48 (by decide) (by omega) (fun c13 => ?_) (fun c13 => ?_)
        · skip
          have c13 := zB_1 c13
          have hok : mOk S t a b := ⟨by omega, by omega, c9, c13⟩
          have hcap := mOk_cap hIv.1 hok
          refine lv_aload_n hx hb dX5_isReachedBehind_53 rfl (lv_at hl 1 rfl) ?_
          refine zg_r (κ := 0) (i := 0) (k := 3) (t := 3) (j := 0) hx hb LX5 hown hK hI (hW.1 0 (by decide)) rfl rfl (by decide) rfl f17 (fun _ h9 => h9) dX5_isReachedBehind_54 (hW.rf 3 rfl) (fun v14 => ?_)
          refine lv_iload_n hx hb dX5_isReachedBehind_57 rfl (lv_at hl 3 rfl) ?_
          refine lv_dup2_11 hx hb dX5_isReachedBehind_58 rfl rfl ?_
          refine za_i (κ := 3) (i := 0) hx hb hK hI v14 rfl (by omega) (by omega) (by omega) dX5_isReachedBehind_59 rfl (fun b15 => ?_)
          refine z_iconst hx hb dX5_isReachedBehind_60 ?_
          refine z_isub hx hb dX5_isReachedBehind_61 ?_
          refine zs_i (κ := 3) (i := 0) hx hb hK hI v14 rfl (by omega) (by omega) (by omega) (by omega) dX5_isReachedBehind_62 (fun H locs hI => ?_)
          obtain ⟨S16, eS16⟩ : ∃ z, z = up3 S 3 0 a.toNat (S 3 0 a.toNat - 1) := ⟨_, rfl⟩
          rw [← eS16] at hI
          have hW : mW n S16 := by rw [eS16]; exact hW.put rfl
          refine lv_aload_n hx hb dX5_isReachedBehind_63 rfl (lv_at hl 1 rfl) ?_
          refine lv_iload hx hb dX5_isReachedBehind_64 (lv_at hl 0 rfl) ?_
          refine lv_iload_n hx hb dX5_isReachedBehind_66 rfl (lv_at hl 4 rfl) ?_
          refine zc_v (zrV (As := [.int (iZ (S 4 0 ((((3 * a) + S 3 0 a.toNat) - 1).toNat))), .int (iZ b)]) (rest := []) (κ := 0) (i := 0) ⟨hx, hb, hml, hown, hts⟩ (c_X5_comes l D cA n am S16 H.size (S 4 0 ((((3 * a) + S 3 0 a.toNat) - 1).toNat)) b hW (by omega) (by omega) (by rw [eS16, up3_n (by omega)]; omega)) (cwV 2 hts gX5_isReachedBehind_X5_comes rfl rfl rfl (by decide +kernel) ⟨Nat.le_of_ble_eq_true rfl, Nat.le_of_ble_eq_true rfl⟩) hK hI (hW.1 0 (by decide)) rfl rfl rfl hl.1 rfl (Nat.le_of_ble_eq_true rfl) dX5_isReachedBehind_67 ⟨Nat.le_of_ble_eq_true rfl, Nat.le_of_ble_eq_true rfl⟩) hI (fun u9 H locs hp17 hI hfr => ?_)
          clear hfr
          obtain rfl := hp17
          obtain ⟨S18, eS18⟩ : ∃ z, z = mComes S16 (S 4 0 ((((3 * a) + S 3 0 a.toNat) - 1).toNat)) b := ⟨_, rfl⟩
          rw [← eS18] at hI
          have hW : mW n S18 := by rw [eS18]; exact (hW.put rfl).put rfl
          have hms : S18 = mMv S a b := by rw [eS18, eS16]; rfl
          refine lv_aload_n hx hb dX5_isReachedBehind_70 rfl (lv_at hl 1 rfl) ?_
          refine lv_iload_n hx hb dX5_isReachedBehind_71 rfl (lv_at hl 2 rfl) ?_
          refine lv_iload hx hb dX5_isReachedBehind_72 (lv_at hl 5 rfl) ?_
          refine z_iconst hx hb dX5_isReachedBehind_74 ?_
          refine z_isub hx hb dX5_isReachedBehind_75 ?_
          refine zc_i (zrV (As := [.int (iZ t), .int (iZ (v - 1))]) (rest := []) (κ := 0) (i := 0) ⟨hx, hb, hml, hown, hts⟩ (c_X5_isReachedWith_2 l D cA n am S18 H.size t (v - 1) hW (by omega) (by rw [hms]; exact mMv_Iv hIv (by omega) (by omega) hok) (by omega)) (cwV 2 hts gX5_isReachedBehind_X5_isReachedWith rfl rfl rfl (by decide +kernel) ⟨Nat.le_of_ble_eq_true rfl, Nat.le_of_ble_eq_true rfl⟩) hK hI (hW.1 0 (by decide)) rfl rfl rfl hl.1 rfl (Nat.le_of_ble_eq_true rfl) dX5_isReachedBehind_76 ⟨Nat.le_of_ble_eq_true rfl, Nat.le_of_ble_eq_true rfl⟩) hI (fun z19 u9 H locs hz20 hp21 hI hfr => ?_)
          clear hfr
          obtain ⟨S22, rfl, hS22, rfl⟩ := hp21
          have hW : mW n S22 := hS22.W hW
          rw [hms] at hS22
          have hmv := hS22
          have hmb : S22 3 0 b.toNat = S 3 0 b.toNat + 1 := by rw [hS22.c, mMv_3 hok.1 (by omega) (by omega), if_neg (by omega), if_pos rfl]
          have hma : S22 3 0 a.toNat = S 3 0 a.toNat - 1 := by rw [hS22.c, mMv_3 hok.1 (by omega) (by omega), if_pos rfl]
          rw [hms]
          refine lv_istore (lv' := [(6, .int (iZ (zB (mRch 2 (mMv S a b) t)))), (5, .int (iZ (S 4 0 ((((3 * a) + S 3 0 a.toNat) - 1).toNat)))), (0, .ref (am 0 0)), (1, .int (iZ t)), (2, .int (iZ a)), (3, .int (iZ b)), (4, .int (iZ v))]) hx hb dX5_isReachedBehind_79 hl (by decide) rfl (fun ls hl => ?_)
          refine lv_aload_n hx hb dX5_isReachedBehind_81 rfl (lv_at hl 2 rfl) ?_
          refine zg_r (κ := 0) (i := 0) (k := 3) (t := 3) (j := 0) hx hb LX5 hown hK hI (hW.1 0 (by decide)) rfl rfl (by decide) rfl f17 (fun _ h9 => h9) dX5_isReachedBehind_82 (hW.rf 3 rfl) (fun v23 => ?_)
          refine lv_iload_n hx hb dX5_isReachedBehind_85 rfl (lv_at hl 5 rfl) ?_
          refine lv_dup2_11 hx hb dX5_isReachedBehind_86 rfl rfl ?_
          refine za_i (κ := 3) (i := 0) hx hb hK hI v23 rfl (by omega) (by omega) (by omega) dX5_isReachedBehind_87 rfl (fun b24 => ?_)
          refine z_iconst hx hb dX5_isReachedBehind_88 ?_
          refine z_isub hx hb dX5_isReachedBehind_89 ?_
          refine zs_i (κ := 3) (i := 0) hx hb hK hI v23 rfl (by omega) (by omega) (by omega) (by omega) dX5_isReachedBehind_90 (fun H locs hI => ?_)
          obtain ⟨S25, eS25⟩ : ∃ z, z = up3 S22 3 0 b.toNat (S22 3 0 b.toNat - 1) := ⟨_, rfl⟩
          rw [← eS25] at hI
          have hW : mW n S25 := by rw [eS25]; exact hW.put rfl
          refine lv_aload_n hx hb dX5_isReachedBehind_91 rfl (lv_at hl 2 rfl) ?_
          refine lv_iload hx hb dX5_isReachedBehind_92 (lv_at hl 1 rfl) ?_
          refine lv_iload_n hx hb dX5_isReachedBehind_94 rfl (lv_at hl 4 rfl) ?_
          refine zc_v (zrV (As := [.int (iZ (S 4 0 ((((3 * a) + S 3 0 a.toNat) - 1).toNat))), .int (iZ a)]) (rest := []) (κ := 0) (i := 0) ⟨hx, hb, hml, hown, hts⟩ (c_X5_comes l D cA n am S25 H.size (S 4 0 ((((3 * a) + S 3 0 a.toNat) - 1).toNat)) a hW (by omega) (by omega) (by rw [eS25, up3_n (by omega)]; omega)) (cwV 2 hts gX5_isReachedBehind_X5_comes rfl rfl rfl (by decide +kernel) ⟨Nat.le_of_ble_eq_true rfl, Nat.le_of_ble_eq_true rfl⟩) hK hI (hW.1 0 (by decide)) rfl rfl rfl hl.1 rfl (Nat.le_of_ble_eq_true rfl) dX5_isReachedBehind_95 ⟨Nat.le_of_ble_eq_true rfl, Nat.le_of_ble_eq_true rfl⟩) hI (fun u9 H locs hp26 hI hfr => ?_)
          clear hfr
          obtain rfl := hp26
          obtain ⟨S27, eS27⟩ : ∃ z, z = mComes S25 (S 4 0 ((((3 * a) + S 3 0 a.toNat) - 1).toNat)) a := ⟨_, rfl⟩
          rw [← eS27] at hI
          have hW : mW n S27 := by rw [eS27]; exact (hW.put rfl).put rfl
          refine lv_iload hx hb dX5_isReachedBehind_98 (lv_at hl 0 rfl) ?_
          exact (ze_i (u' := (n, am, S27)) (z := zB (mRch 2 (mMv S a b) t)) hx hb hr (iZ_narz (zB_R _).1 (zB_R _).2).1 hI (zB_iR _) ⟨S27, rfl, by rw [eS27, eS25]; exact mBack hIv.1.2.1 hok.1 (by omega) (by omega) hok.2.1 (mOk_cap hIv.1 hok) hmv, zB_iff ⟨fun q => ⟨hok, q⟩, fun q => q.2⟩⟩ (Nat.le_of_ble_eq_true rfl) (Nat.le_of_ble_eq_true rfl) dX5_isReachedBehind_100 hlocks)
        · skip
          have c13 := zB_0 c13
          refine z_iconst hx hb dX5_isReachedBehind_51 ?_
          exact (ze_i (u' := (n, am, S)) (z := 0) hx hb hr (iZ_narz (by omega) (by omega)).1 hI (by omega) ⟨S, rfl, mEq.rfl' S, (zB_f (fun q => c13 q.1.2.2.2)).symm⟩ (Nat.le_of_ble_eq_true rfl) (Nat.le_of_ble_eq_true rfl) dX5_isReachedBehind_52 hlocks)
    · skip
      refine z_iconst hx hb dX5_isReachedBehind_14 ?_
      exact (ze_i (u' := (n, am, S)) (z := 0) hx hb hr (iZ_narz (by omega) (by omega)).1 hI (by omega) ⟨S, rfl, mEq.rfl' S, (zB_f (fun q => by have q1 := q.1.1; have q2 := q.1.2.1; omega)).symm⟩ (Nat.le_of_ble_eq_true rfl) (Nat.le_of_ble_eq_true rfl) dX5_isReachedBehind_15 hlocks)
set_option maxHeartbeats 4000000 in
set_option maxRecDepth 100000 in
theorem c_X5_isReachedWith_3 (l : Launch) (D : va_G) (cA : Nat → ClassId) (n : Nat → Nat) (am : ts_Am) (S : ts_St) (sz : Nat) (t v : Int) (hW : mW n S) (ht0 : 0 ≤ t ∧ t < 40) (hIv : mIv S t) (hv : v = 3) : Met l yX5_isReachedWith wsX5_isReachedWith ({ frames := 8, cells := 0, slots := 0, locals := 198 } : Room) (va_Pc [.ref (am 0 0), .int (iZ t), .int (iZ v)] (zP TM D cA (n, am, S) sz)) (zQi TM D cA (n, am, S) sz (fun z u => ∃ S9, u = (n, am, S9) ∧ mEq S S9 ∧ z = zB (mRch 3 S t))) 0 0 (ts_A (n, am, S) sz) := by
  refine zM_of (by decide) rfl (Nat.le_of_ble_eq_true rfl) ?_
  intro p e s m below meth c hx hb hr hts hown hlocks hml hname hK hsz H locs hI ls hl
  subst hsz
  have hown : s.vm.findClass RX5 = some m.cls := hown
  have hl : lv_has ls 6 [(0, .ref (am 0 0)), (1, .int (iZ t)), (2, .int (iZ v))] := hl
  have f70 := hts (.fieldLink RX5 70 "DockyardSlotsModel" "lanes" "I") (by decide +kernel)
  have LX5 : ∀ w ∈ wsX50, w.before [.ref (am 0 0), .int (iZ t), .int (iZ v)].toArray s = true := fun w h => hts w (List.mem_cons_of_mem _ (List.mem_append_left _ (List.mem_append_right _ h)))
  have hlc := hIv.1.1.1
  have hsr := mSlot_R (S := S) (t := t) hlc.2 hIv.1.2.1
  have hsi := hIv.2.2
  have hahR := mAhead_R hIv.1.2.1 hIv.2.2
  refine lv_aload_n hx hb dX5_isReachedWith_0 rfl (lv_at hl 0 rfl) ?_
  refine lv_iload_n hx hb dX5_isReachedWith_1 rfl (lv_at hl 1 rfl) ?_
  refine zc_i (zrV (As := [.int (iZ t)]) (rest := []) (κ := 0) (i := 0) ⟨hx, hb, hml, hown, hts⟩ (c_X5_ahead l D cA n am S H.size t hW (by omega) hIv.1.1.1 hIv.1.2.1 (by omega)) (cwV 1 hts gX5_isReachedWith_X5_ahead rfl rfl rfl (by decide +kernel) ⟨Nat.le_of_ble_eq_true rfl, Nat.le_of_ble_eq_true rfl⟩) hK hI (hW.1 0 (by decide)) rfl rfl rfl hl.1 rfl (Nat.le_of_ble_eq_true rfl) dX5_isReachedWith_2 ⟨Nat.le_of_ble_eq_true rfl, Nat.le_of_ble_eq_true rfl⟩) hI (fun z1 u9 H locs hz2 hp3 hI hfr => ?_)
  clear hfr
  obtain ⟨rfl, rfl⟩ := hp3
  refine z_if_ne (tgt := 10) hx hb dX5_isReachedWith_5 (by decide) (by omega) (fun c4 => ?_) (fun c4 => ?_)
  · skip
    have hah0 := c4
    refine lv_aload_n hx hb dX5_isReachedWith_10 rfl (lv_at hl 0 rfl) ?_
    refine lv_iload_n hx hb dX5_isReachedWith_11 rfl (lv_at hl 1 rfl) ?_
    refine zc_i (zrV (As := [.int (iZ t)]) (rest := []) (κ := 0) (i := 0) ⟨hx, hb, hml, hown, hts⟩ (c_X5_ahead l D cA n am S H.size t hW (by omega) hIv.1.1.1 hIv.1.2.1 (by omega)) (cwV 1 hts gX5_isReachedWith_X5_ahead rfl rfl rfl (by decide +kernel) ⟨Nat.le_of_ble_eq_true rfl, Nat.le_of_ble_eq_true rfl⟩) hK hI (hW.1 0 (by decide)) rfl rfl rfl hl.1 rfl (Nat.le_of_ble_eq_true rfl) dX5_isReachedWith_12 ⟨Nat.le_of_ble_eq_true rfl, Nat.le_of_ble_eq_true rfl⟩) hI (fun z5 u9 H locs hz6 hp7 hI hfr => ?_)
    clear hfr
    obtain ⟨rfl, rfl⟩ := hp7
    refine lv_iload_n hx hb dX5_isReachedWith_15 rfl (lv_at hl 2 rfl) ?_
    refine z_icmp_le (tgt := 21) hx hb dX5_isReachedWith_16 (by decide) (by omega) (by omega) (fun c8 => ?_) (fun c8 => ?_)
    · skip
      refine z_iconst hx hb dX5_isReachedWith_21 ?_
      refine lv_istore_n (lv' := [(3, .int (iZ 0)), (0, .ref (am 0 0)), (1, .int (iZ t)), (2, .int (iZ v))]) hx hb dX5_isReachedWith_22 rfl hl (by decide) rfl (fun ls hl => ?_)
      refine z_iconst hx hb dX5_isReachedWith_23 ?_
      refine lv_istore (lv' := [(4, .int (iZ 0)), (3, .int (iZ 0)), (0, .ref (am 0 0)), (1, .int (iZ t)), (2, .int (iZ v))]) hx hb dX5_isReachedWith_24 hl (by decide) rfl (fun ls hl => ?_)
      obtain ⟨x, e_x⟩ : ∃ z : Int, z = 0 := ⟨_, rfl⟩
      obtain ⟨y, e_y⟩ : ∃ z : Int, z = 0 := ⟨_, rfl⟩
      replace hl : lv_has ls 6 [(4, .int (iZ y)), (3, .int (iZ x)), (0, .ref (am 0 0)), (1, .int (iZ t)), (2, .int (iZ v))] := by rw [e_x, e_y]; exact hl
      obtain ⟨S1, e_S1⟩ : ∃ z, z = S := ⟨_, rfl⟩
      rw [← e_S1] at hI
      replace hW : mW n S1 := by rw [e_S1]; exact hW
      have h1 : 0 ≤ y ∧ y ≤ S 0 0 0 := by have := hIv.1.1.1; omega
      have h2 : mEq S S1 := by rw [e_S1]; exact mEq.rfl' S
      have h3 : x = zB (mEx 2 S t y) := by rw [e_x, e_y]; exact (zB_f mEx_0).symm
      have h4 : 0 ≤ x ∧ x < 2 := by omega
      obtain ⟨k26, hk26⟩ : ∃ k : Nat, S 0 0 0 - y < (k : Int) := ⟨(S 0 0 0 - y).toNat + 1, by omega⟩
      clear e_x e_y e_S1
      induction k26 generalizing x y S1 H locs ls with
      | zero => omega
      | succ k26 ih26 =>
        have h10 := h2.1 0 0 0 (by decide)
        refine lv_iload_n hx hb dX5_isReachedWith_26 rfl (lv_at hl 1 rfl) ?_
        refine z_if_ne (tgt := 78) hx hb dX5_isReachedWith_27 (by decide) (by omega) (fun c9 => ?_) (fun c9 => ?_)
        · skip
          refine lv_iload_n hx hb dX5_isReachedWith_78 rfl (lv_at hl 1 rfl) ?_
          exact (ze_i (u' := (n, am, S1)) (z := x) hx hb hr (iZ_narz (by omega) (by omega)).1 hI (by omega) ⟨S1, rfl, h2, by rw [h3] at c9 ⊢; rw [zB_t (zB_1 c9), zB_t (mRch_ex hah0 (by omega) (zB_1 c9) (by omega))]⟩ (Nat.le_of_ble_eq_true rfl) (Nat.le_of_ble_eq_true rfl) dX5_isReachedWith_79 hlocks)
        · skip
          refine lv_iload hx hb dX5_isReachedWith_30 (lv_at hl 0 rfl) ?_
          refine lv_aload_n hx hb dX5_isReachedWith_32 rfl (lv_at hl 2 rfl) ?_
          refine zg_i (κ := 0) (i := 0) (k := 0) hx hb LX5 hown hK hI (hW.1 0 (by decide)) rfl rfl (by decide) rfl f70 (fun _ h9 => h9) dX5_isReachedWith_33 rfl (fun b10 => ?_)
          refine z_icmp_ge (tgt := 78) hx hb dX5_isReachedWith_36 (by decide) (by omega) (by omega) (fun c11 => ?_) (fun c11 => ?_)
          · skip
            refine lv_iload_n hx hb dX5_isReachedWith_78 rfl (lv_at hl 1 rfl) ?_
            exact (ze_i (u' := (n, am, S1)) (z := x) hx hb hr (iZ_narz (by omega) (by omega)).1 hI (by omega) ⟨S1, rfl, h2, by rw [h3] at c9 ⊢; rw [zB_f (zB_0 c9), zB_f (mRch_nex hah0 (zB_0 c9) (by omega))]⟩ (Nat.le_of_ble_eq_true rfl) (Nat.le_of_ble_eq_true rfl) dX5_isReachedWith_79 hlocks)
          · skip
            refine z_iconst hx hb dX5_isReachedWith_39 ?_
            refine lv_istore (lv' := [(5, .int (iZ 0)), (4, .int (iZ y)), (3, .int (iZ x)), (0, .ref (am 0 0)), (1, .int (iZ t)), (2, .int (iZ v))]) hx hb dX5_isReachedWith_40 hl (by decide) rfl (fun ls hl => ?_)
            obtain ⟨x2, e_x2⟩ : ∃ z : Int, z = x := ⟨_, rfl⟩
            obtain ⟨w, e_w⟩ : ∃ z : Int, z = 0 := ⟨_, rfl⟩
            replace hl : lv_has ls 6 [(5, .int (iZ w)), (4, .int (iZ y)), (3, .int (iZ x2)), (0, .ref (am 0 0)), (1, .int (iZ t)), (2, .int (iZ v))] := by rw [e_x2, e_w]; exact hl
            obtain ⟨S2, e_S2⟩ : ∃ z, z = S1 := ⟨_, rfl⟩
            rw [← e_S2] at hI
            replace hW : mW n S2 := by rw [e_S2]; exact hW
            have h1b : 0 ≤ w ∧ w ≤ S 0 0 0 := by have := hIv.1.1.1; omega
            have h5 : mEq S S2 := by rw [e_S2]; exact h2
            have h6 : x2 = zB (mEx2 2 S t y w) := by rw [e_x2, e_w, h3]; exact (zB_iff mEx2_0).symm
            have h7 : 0 ≤ x2 ∧ x2 < 2 := by omega
            obtain ⟨k42, hk42⟩ : ∃ k : Nat, S 0 0 0 - w < (k : Int) := ⟨(S 0 0 0 - w).toNat + 1, by omega⟩
            clear e_x2 e_w e_S2
            induction k42 generalizing x2 w S2 H locs ls with
            | zero => omega
            | succ k42 ih42 =>
              have h11 := h5.1 0 0 0 (by decide)
              refine lv_iload_n hx hb dX5_isReachedWith_42 rfl (lv_at hl 2 rfl) ?_
              refine z_if_ne (tgt := 72) hx hb dX5_isReachedWith_43 (by decide) (by omega) (fun c12 => ?_) (fun c12 => ?_)
              · skip
                refine z_iinc (k := 1) (lv' := [(4, .int (iZ (y + 1))), (5, .int (iZ w)), (3, .int (iZ x2)), (0, .ref (am 0 0)), (1, .int (iZ t)), (2, .int (iZ v))]) hx hb dX5_isReachedWith_72 hl rfl (by decide) rfl (fun ls hl => ?_)
                refine lv_goto (tgt := 26) hx hb dX5_isReachedWith_75 (by decide) ?_
                exact ih26 (x := x2) (y := (y + 1)) (S1 := S2) (h1 := by omega) (h2 := by exact h5) (h3 := by rw [h6] at c12 ⊢; have q := zB_1 c12; rw [zB_t q, zB_t (mEx_s (by omega) q (by omega))]) (h4 := by omega) (hW := hW) (hk26 := by omega) (hI := hI) (hl := lv_sub hl [0, 2, 3, 4, 5] rfl)
              · skip
                have hIv2 := h5.Iv hIv
                have hlc := hIv.1.1.1
                refine lv_iload hx hb dX5_isReachedWith_46 (lv_at hl 0 rfl) ?_
                refine lv_aload_n hx hb dX5_isReachedWith_48 rfl (lv_at hl 3 rfl) ?_
                refine zg_i (κ := 0) (i := 0) (k := 0) hx hb LX5 hown hK hI (hW.1 0 (by decide)) rfl rfl (by decide) rfl f70 (fun _ h9 => h9) dX5_isReachedWith_49 rfl (fun b13 => ?_)
                refine z_icmp_ge (tgt := 72) hx hb dX5_isReachedWith_52 (by decide) (by omega) (by omega) (fun c14 => ?_) (fun c14 => ?_)
                · skip
                  refine z_iinc (k := 1) (lv' := [(4, .int (iZ (y + 1))), (5, .int (iZ w)), (3, .int (iZ x2)), (0, .ref (am 0 0)), (1, .int (iZ t)), (2, .int (iZ v))]) hx hb dX5_isReachedWith_72 hl rfl (by decide) rfl (fun ls hl => ?_)
                  refine lv_goto (tgt := 26) hx hb dX5_isReachedWith_75 (by decide) ?_
                  exact ih26 (x := x2) (y := (y + 1)) (S1 := S2) (h1 := by omega) (h2 := by exact h5) (h3 := by rw [h6] at c12 ⊢; have q := zB_0 c12; rw [zB_f q, zB_f (mEx_n q (by omega))]) (h4 := by omega) (hW := hW) (hk26 := by omega) (hI := hI) (hl := lv_sub hl [0, 2, 3, 4, 5] rfl)
                · skip
                  refine lv_aload_n hx hb dX5_isReachedWith_55 rfl (lv_at hl 3 rfl) ?_
                  refine lv_iload_n hx hb dX5_isReachedWith_56 rfl (lv_at hl 4 rfl) ?_
                  refine lv_iload hx hb dX5_isReachedWith_57 (lv_at hl 1 rfl) ?_
                  refine lv_iload hx hb dX5_isReachedWith_59 (lv_at hl 0 rfl) ?_
                  refine lv_iload_n hx hb dX5_isReachedWith_61 rfl (lv_at hl 5 rfl) ?_
                  refine zc_i (zrV (As := [.int (iZ t), .int (iZ y), .int (iZ w), .int (iZ v)]) (rest := []) (κ := 0) (i := 0) ⟨hx, hb, hml, hown, hts⟩ (c_X5_isReachedBehind_3 l D cA n am S2 H.size t y w v hW (by omega) hIv2 (by omega) (by omega) (by omega)) (cwV 4 hts gX5_isReachedWith_X5_isReachedBehind rfl rfl rfl (by decide +kernel) ⟨Nat.le_of_ble_eq_true rfl, Nat.le_of_ble_eq_true rfl⟩) hK hI (hW.1 0 (by decide)) rfl rfl rfl hl.1 rfl (Nat.le_of_ble_eq_true rfl) dX5_isReachedWith_62 ⟨Nat.le_of_ble_eq_true rfl, Nat.le_of_ble_eq_true rfl⟩) hI (fun z15 u9 H locs hz16 hp17 hI hfr => ?_)
                  clear hfr
                  obtain ⟨S18, rfl, hS18, rfl⟩ := hp17
                  have hW : mW n S18 := hS18.W hW
                  refine lv_istore_n (lv' := [(3, .int (iZ (zB (mT 2 S2 t y w)))), (5, .int (iZ w)), (4, .int (iZ y)), (0, .ref (am 0 0)), (1, .int (iZ t)), (2, .int (iZ v))]) hx hb dX5_isReachedWith_65 rfl hl (by decide) rfl (fun ls hl => ?_)
                  refine z_iinc (k := 1) (lv' := [(5, .int (iZ (w + 1))), (3, .int (iZ (zB (mT 2 S2 t y w)))), (4, .int (iZ y)), (0, .ref (am 0 0)), (1, .int (iZ t)), (2, .int (iZ v))]) hx hb dX5_isReachedWith_66 hl rfl (by decide) rfl (fun ls hl => ?_)
                  refine lv_goto (tgt := 42) hx hb dX5_isReachedWith_69 (by decide) ?_
                  exact ih42 (x2 := zB (mT 2 S2 t y w)) (w := (w + 1)) (S2 := S18) (h1b := by omega) (h5 := by exact h5.trans hS18) (h6 := by have q := zB_0 (by rw [← h6]; exact c12); rw [zB_iff (mT_eq (d := 2) h5 hIv (by omega) (by omega)), zB_iff (mEx2_s q (by omega))]) (h7 := by exact zB_R _) (hW := hW) (hk42 := by omega) (hI := hI) (hl := lv_sub hl [0, 2, 1, 3, 4, 5] rfl)
    · skip
      refine z_iconst hx hb dX5_isReachedWith_19 ?_
      exact (ze_i (u' := (n, am, S)) (z := 0) hx hb hr (iZ_narz (by omega) (by omega)).1 hI (by omega) ⟨S, rfl, mEq.rfl' S, (zB_f (mRch_le hah0 (by omega))).symm⟩ (Nat.le_of_ble_eq_true rfl) (Nat.le_of_ble_eq_true rfl) dX5_isReachedWith_20 hlocks)
  · skip
    refine z_iconst hx hb dX5_isReachedWith_8 ?_
    exact (ze_i (u' := (n, am, S)) (z := 1) hx hb hr (iZ_narz (by omega) (by omega)).1 hI (by omega) ⟨S, rfl, mEq.rfl' S, (zB_t (Or.inl c4)).symm⟩ (Nat.le_of_ble_eq_true rfl) (Nat.le_of_ble_eq_true rfl) dX5_isReachedWith_9 hlocks)
set_option maxHeartbeats 4000000 in
set_option maxRecDepth 100000 in
theorem c_X5_isReachedBehind_4 (l : Launch) (D : va_G) (cA : Nat → ClassId) (n : Nat → Nat) (am : ts_Am) (S : ts_St) (sz : Nat) (t a b v : Int) (hW : mW n S) (ht0 : 0 ≤ t ∧ t < 40) (hIv : mIv S t) (ha0 : 0 ≤ a ∧ a < S 0 0 0) (hb0 : 0 ≤ b ∧ b < S 0 0 0) (hv : v = 4) : Met l yX5_isReachedBehind wsX5_isReachedBehind ({ frames := 9, cells := 0, slots := 0, locals := 223 } : Room) (va_Pc [.ref (am 0 0), .int (iZ t), .int (iZ a), .int (iZ b), .int (iZ v)] (zP TM D cA (n, am, S) sz)) (zQi TM D cA (n, am, S) sz (fun z u => ∃ S9, u = (n, am, S9) ∧ mEq S S9 ∧ z = zB (mT 3 S t a b))) 0 0 (ts_A (n, am, S) sz) := by
  refine zM_of (by decide) rfl (Nat.le_of_ble_eq_true rfl) ?_
  intro p e s m below meth c hx hb hr hts hown hlocks hml hname hK hsz H locs hI ls hl
  subst hsz
  have hown : s.vm.findClass RX5 = some m.cls := hown
  have hl : lv_has ls 7 [(0, .ref (am 0 0)), (1, .int (iZ t)), (2, .int (iZ a)), (3, .int (iZ b)), (4, .int (iZ v))] := hl
  have f17 := hts (.fieldLink RX5 17 "DockyardSlotsModel" "counts" "[I") (by decide +kernel)
  have f20 := hts (.fieldLink RX5 20 "DockyardSlotsModel" "slots" "[I") (by decide +kernel)
  have LX5 : ∀ w ∈ wsX50, w.before [.ref (am 0 0), .int (iZ t), .int (iZ a), .int (iZ b), .int (iZ v)].toArray s = true := fun w h => hts w (List.mem_cons_of_mem _ (List.mem_append_left _ (List.mem_append_right _ h)))
  have hlc := hIv.1.1.1
  refine lv_iload_n hx hb dX5_isReachedBehind_0 rfl (lv_at hl 2 rfl) ?_
  refine lv_iload_n hx hb dX5_isReachedBehind_1 rfl (lv_at hl 3 rfl) ?_
  refine z_icmp_eq (tgt := 14) hx hb dX5_isReachedBehind_2 (by decide) (by omega) (by omega) (fun c1 => ?_) (fun c1 => ?_)
  · skip
    refine z_iconst hx hb dX5_isReachedBehind_14 ?_
    exact (ze_i (u' := (n, am, S)) (z := 0) hx hb hr (iZ_narz (by omega) (by omega)).1 hI (by omega) ⟨S, rfl, mEq.rfl' S, (zB_f (fun q => by have q1 := q.1.1; have q2 := q.1.2.1; omega)).symm⟩ (Nat.le_of_ble_eq_true rfl) (Nat.le_of_ble_eq_true rfl) dX5_isReachedBehind_15 hlocks)
  · skip
    refine lv_aload_n hx hb dX5_isReachedBehind_5 rfl (lv_at hl 0 rfl) ?_
    refine zg_r (κ := 0) (i := 0) (k := 3) (t := 3) (j := 0) hx hb LX5 hown hK hI (hW.1 0 (by decide)) rfl rfl (by decide) rfl f17 (fun _ h9 => h9) dX5_isReachedBehind_6 (hW.rf 3 rfl) (fun v2 => ?_)
    refine lv_iload_n hx hb dX5_isReachedBehind_9 rfl (lv_at hl 2 rfl) ?_
    refine za_i (κ := 3) (i := 0) hx hb hK hI v2 rfl (by omega) (by omega) (by omega) dX5_isReachedBehind_10 rfl (fun b3 => ?_)
    refine z_if_ne (tgt := 16) hx hb dX5_isReachedBehind_11 (by decide) (by omega) (fun c4 => ?_) (fun c4 => ?_)
    · skip
      have hcb := hIv.1.2.1 b.toNat
      have hca := hIv.1.2.1 a.toNat
      have htp : 0 ≤ S 4 0 (((3 * a) + S 3 0 a.toNat) - 1).toNat ∧ S 4 0 (((3 * a) + S 3 0 a.toNat) - 1).toNat < 40 := mTop_R hIv.1 hIv.2.1 (a := a) (by omega) (by omega)
      refine lv_aload_n hx hb dX5_isReachedBehind_16 rfl (lv_at hl 0 rfl) ?_
      refine zg_r (κ := 0) (i := 0) (k := 4) (t := 4) (j := 0) hx hb LX5 hown hK hI (hW.1 0 (by decide)) rfl rfl (by decide) rfl f20 (fun _ h9 => h9) dX5_isReachedBehind_17 (hW.rf 4 rfl) (fun v5 => ?_)
      refine z_iconst hx hb dX5_isReachedBehind_20 ?_
      refine lv_iload_n hx hb dX5_isReachedBehind_21 rfl (lv_at hl 2 rfl) ?_
      refine z_imul hx hb dX5_isReachedBehind_22 ?_
      refine lv_aload_n hx hb dX5_isReachedBehind_23 rfl (lv_at hl 0 rfl) ?_
      refine zg_r (κ := 0) (i := 0) (k := 3) (t := 3) (j := 0) hx hb LX5 hown hK hI (hW.1 0 (by decide)) rfl rfl (by decide) rfl f17 (fun _ h9 => h9) dX5_isReachedBehind_24 (hW.rf 3 rfl) (fun v6 => ?_)
      refine lv_iload_n hx hb dX5_isReachedBehind_27 rfl (lv_at hl 2 rfl) ?_
      refine za_i (κ := 3) (i := 0) hx hb hK hI v6 rfl (by omega) (by omega) (by omega) dX5_isReachedBehind_28 rfl (fun b7 => ?_)
      refine z_iadd hx hb dX5_isReachedBehind_29 ?_
      refine z_iconst hx hb dX5_isReachedBehind_30 ?_
      refine z_isub hx hb dX5_isReachedBehind_31 ?_
      refine za_i (κ := 4) (i := 0) hx hb hK hI v5 rfl (by omega) (by omega) (by omega) dX5_isReachedBehind_32 rfl (fun b8 => ?_)
      refine lv_istore (lv' := [(5, .int (iZ (S 4 0 ((((3 * a) + S 3 0 a.toNat) - 1).toNat)))), (0, .ref (am 0 0)), (1, .int (iZ t)), (2, .int (iZ a)), (3, .int (iZ b)), (4, .int (iZ v))]) hx hb dX5_isReachedBehind_33 hl (by decide) rfl (fun ls hl => ?_)
      refine lv_iload hx hb dX5_isReachedBehind_35 (lv_at hl 0 rfl) ?_
      refine lv_iload_n hx hb dX5_isReachedBehind_37 rfl (lv_at hl 2 rfl) ?_
      refine z_icmp_eq (tgt := 51) hx hb dX5_isReachedBehind_38 (by decide) (by omega) (by omega) (fun c9 => ?_) (fun c9 => ?_)
      · skip
        refine z_iconst hx hb dX5_isReachedBehind_51 ?_
        exact (ze_i (u' := (n, am, S)) (z := 0) hx hb hr (iZ_narz (by omega) (by omega)).1 hI (by omega) ⟨S, rfl, mEq.rfl' S, (zB_f (fun q => q.1.2.2.1 c9)).symm⟩ (Nat.le_of_ble_eq_true rfl) (Nat.le_of_ble_eq_true rfl) dX5_isReachedBehind_52 hlocks)
      · skip
        refine lv_aload_n hx hb dX5_isReachedBehind_41 rfl (lv_at hl 1 rfl) ?_
        refine lv_iload hx hb dX5_isReachedBehind_42 (lv_at hl 0 rfl) ?_
        refine lv_iload_n hx hb dX5_isReachedBehind_44 rfl (lv_at hl 4 rfl) ?_
        refine zc_i (zrV (As := [.int (iZ (S 4 0 ((((3 * a) + S 3 0 a.toNat) - 1).toNat))), .int (iZ b)]) (rest := []) (κ := 0) (i := 0) ⟨hx, hb, hml, hown, hts⟩ (c_X5_canCome l D cA n am S H.size (S 4 0 ((((3 * a) + S 3 0 a.toNat) - 1).toNat)) b hW (by omega) (by omega)) (cwV 2 hts gX5_isReachedBehind_X5_canCome rfl rfl rfl (by decide +kernel) ⟨Nat.le_of_ble_eq_true rfl, Nat.le_of_ble_eq_true rfl⟩) hK hI (hW.1 0 (by decide)) rfl rfl rfl hl.1 rfl (Nat.le_of_ble_eq_true rfl) dX5_isReachedBehind_45 ⟨Nat.le_of_ble_eq_true rfl, Nat.le_of_ble_eq_true rfl⟩) hI (fun z10 u9 H locs hz11 hp12 hI hfr => ?_)
        clear hfr
        obtain ⟨rfl, rfl⟩ := hp12
        refine z_if_ne (tgt := 53) hx hb dX5_isReachedBehind_48 (by decide) (by omega) (fun c13 => ?_) (fun c13 => ?_)
        · skip
          have c13 := zB_1 c13
          have hok : mOk S t a b := ⟨by omega, by omega, c9, c13⟩
          have hcap := mOk_cap hIv.1 hok
          refine lv_aload_n hx hb dX5_isReachedBehind_53 rfl (lv_at hl 1 rfl) ?_
          refine zg_r (κ := 0) (i := 0) (k := 3) (t := 3) (j := 0) hx hb LX5 hown hK hI (hW.1 0 (by decide)) rfl rfl (by decide) rfl f17 (fun _ h9 => h9) dX5_isReachedBehind_54 (hW.rf 3 rfl) (fun v14 => ?_)
          refine lv_iload_n hx hb dX5_isReachedBehind_57 rfl (lv_at hl 3 rfl) ?_
          refine lv_dup2_11 hx hb dX5_isReachedBehind_58 rfl rfl ?_
          refine za_i (κ := 3) (i := 0) hx hb hK hI v14 rfl (by omega) (by omega) (by omega) dX5_isReachedBehind_59 rfl (fun b15 => ?_)
          refine z_iconst hx hb dX5_isReachedBehind_60 ?_
          refine z_isub hx hb dX5_isReachedBehind_61 ?_
          refine zs_i (κ := 3) (i := 0) hx hb hK hI v14 rfl (by omega) (by omega) (by omega) (by omega) dX5_isReachedBehind_62 (fun H locs hI => ?_)
          obtain ⟨S16, eS16⟩ : ∃ z, z = up3 S 3 0 a.toNat (S 3 0 a.toNat - 1) := ⟨_, rfl⟩
          rw [← eS16] at hI
          have hW : mW n S16 := by rw [eS16]; exact hW.put rfl
          refine lv_aload_n hx hb dX5_isReachedBehind_63 rfl (lv_at hl 1 rfl) ?_
          refine lv_iload hx hb dX5_isReachedBehind_64 (lv_at hl 0 rfl) ?_
          refine lv_iload_n hx hb dX5_isReachedBehind_66 rfl (lv_at hl 4 rfl) ?_
          refine zc_v (zrV (As := [.int (iZ (S 4 0 ((((3 * a) + S 3 0 a.toNat) - 1).toNat))), .int (iZ b)]) (rest := []) (κ := 0) (i := 0) ⟨hx, hb, hml, hown, hts⟩ (c_X5_comes l D cA n am S16 H.size (S 4 0 ((((3 * a) + S 3 0 a.toNat) - 1).toNat)) b hW (by omega) (by omega) (by rw [eS16, up3_n (by omega)]; omega)) (cwV 2 hts gX5_isReachedBehind_X5_comes rfl rfl rfl (by decide +kernel) ⟨Nat.le_of_ble_eq_true rfl, Nat.le_of_ble_eq_true rfl⟩) hK hI (hW.1 0 (by decide)) rfl rfl rfl hl.1 rfl (Nat.le_of_ble_eq_true rfl) dX5_isReachedBehind_67 ⟨Nat.le_of_ble_eq_true rfl, Nat.le_of_ble_eq_true rfl⟩) hI (fun u9 H locs hp17 hI hfr => ?_)
          clear hfr
          obtain rfl := hp17
          obtain ⟨S18, eS18⟩ : ∃ z, z = mComes S16 (S 4 0 ((((3 * a) + S 3 0 a.toNat) - 1).toNat)) b := ⟨_, rfl⟩
          rw [← eS18] at hI
          have hW : mW n S18 := by rw [eS18]; exact (hW.put rfl).put rfl
          have hms : S18 = mMv S a b := by rw [eS18, eS16]; rfl
          refine lv_aload_n hx hb dX5_isReachedBehind_70 rfl (lv_at hl 1 rfl) ?_
          refine lv_iload_n hx hb dX5_isReachedBehind_71 rfl (lv_at hl 2 rfl) ?_
          refine lv_iload hx hb dX5_isReachedBehind_72 (lv_at hl 5 rfl) ?_
          refine z_iconst hx hb dX5_isReachedBehind_74 ?_
          refine z_isub hx hb dX5_isReachedBehind_75 ?_
          refine zc_i (zrV (As := [.int (iZ t), .int (iZ (v - 1))]) (rest := []) (κ := 0) (i := 0) ⟨hx, hb, hml, hown, hts⟩ (c_X5_isReachedWith_3 l D cA n am S18 H.size t (v - 1) hW (by omega) (by rw [hms]; exact mMv_Iv hIv (by omega) (by omega) hok) (by omega)) (cwV 2 hts gX5_isReachedBehind_X5_isReachedWith rfl rfl rfl (by decide +kernel) ⟨Nat.le_of_ble_eq_true rfl, Nat.le_of_ble_eq_true rfl⟩) hK hI (hW.1 0 (by decide)) rfl rfl rfl hl.1 rfl (Nat.le_of_ble_eq_true rfl) dX5_isReachedBehind_76 ⟨Nat.le_of_ble_eq_true rfl, Nat.le_of_ble_eq_true rfl⟩) hI (fun z19 u9 H locs hz20 hp21 hI hfr => ?_)
          clear hfr
          obtain ⟨S22, rfl, hS22, rfl⟩ := hp21
          have hW : mW n S22 := hS22.W hW
          rw [hms] at hS22
          have hmv := hS22
          have hmb : S22 3 0 b.toNat = S 3 0 b.toNat + 1 := by rw [hS22.c, mMv_3 hok.1 (by omega) (by omega), if_neg (by omega), if_pos rfl]
          have hma : S22 3 0 a.toNat = S 3 0 a.toNat - 1 := by rw [hS22.c, mMv_3 hok.1 (by omega) (by omega), if_pos rfl]
          rw [hms]
          refine lv_istore (lv' := [(6, .int (iZ (zB (mRch 3 (mMv S a b) t)))), (5, .int (iZ (S 4 0 ((((3 * a) + S 3 0 a.toNat) - 1).toNat)))), (0, .ref (am 0 0)), (1, .int (iZ t)), (2, .int (iZ a)), (3, .int (iZ b)), (4, .int (iZ v))]) hx hb dX5_isReachedBehind_79 hl (by decide) rfl (fun ls hl => ?_)
          refine lv_aload_n hx hb dX5_isReachedBehind_81 rfl (lv_at hl 2 rfl) ?_
          refine zg_r (κ := 0) (i := 0) (k := 3) (t := 3) (j := 0) hx hb LX5 hown hK hI (hW.1 0 (by decide)) rfl rfl (by decide) rfl f17 (fun _ h9 => h9) dX5_isReachedBehind_82 (hW.rf 3 rfl) (fun v23 => ?_)
          refine lv_iload_n hx hb dX5_isReachedBehind_85 rfl (lv_at hl 5 rfl) ?_
          refine lv_dup2_11 hx hb dX5_isReachedBehind_86 rfl rfl ?_
          refine za_i (κ := 3) (i := 0) hx hb hK hI v23 rfl (by omega) (by omega) (by omega) dX5_isReachedBehind_87 rfl (fun b24 => ?_)
          refine z_iconst hx hb dX5_isReachedBehind_88 ?_
          refine z_isub hx hb dX5_isReachedBehind_89 ?_
          refine zs_i (κ := 3) (i := 0) hx hb hK hI v23 rfl (by omega) (by omega) (by omega) (by omega) dX5_isReachedBehind_90 (fun H locs hI => ?_)
          obtain ⟨S25, eS25⟩ : ∃ z, z = up3 S22 3 0 b.toNat (S22 3 0 b.toNat - 1) := ⟨_, rfl⟩
          rw [← eS25] at hI
          have hW : mW n S25 := by rw [eS25]; exact hW.put rfl
          refine lv_aload_n hx hb dX5_isReachedBehind_91 rfl (lv_at hl 2 rfl) ?_
          refine lv_iload hx hb dX5_isReachedBehind_92 (lv_at hl 1 rfl) ?_
          refine lv_iload_n hx hb dX5_isReachedBehind_94 rfl (lv_at hl 4 rfl) ?_
          refine zc_v (zrV (As := [.int (iZ (S 4 0 ((((3 * a) + S 3 0 a.toNat) - 1).toNat))), .int (iZ a)]) (rest := []) (κ := 0) (i := 0) ⟨hx, hb, hml, hown, hts⟩ (c_X5_comes l D cA n am S25 H.size (S 4 0 ((((3 * a) + S 3 0 a.toNat) - 1).toNat)) a hW (by omega) (by omega) (by rw [eS25, up3_n (by omega)]; omega)) (cwV 2 hts gX5_isReachedBehind_X5_comes rfl rfl rfl (by decide +kernel) ⟨Nat.le_of_ble_eq_true rfl, Nat.le_of_ble_eq_true rfl⟩) hK hI (hW.1 0 (by decide)) rfl rfl rfl hl.1 rfl (Nat.le_of_ble_eq_true rfl) dX5_isReachedBehind_95 ⟨Nat.le_of_ble_eq_true rfl, Nat.le_of_ble_eq_true rfl⟩) hI (fun u9 H locs hp26 hI hfr => ?_)
          clear hfr
          obtain rfl := hp26
          obtain ⟨S27, eS27⟩ : ∃ z, z = mComes S25 (S 4 0 ((((3 * a) + S 3 0 a.toNat) - 1).toNat)) a := ⟨_, rfl⟩
          rw [← eS27] at hI
          have hW : mW n S27 := by rw [eS27]; exact (hW.put rfl).put rfl
          refine lv_iload hx hb dX5_isReachedBehind_98 (lv_at hl 0 rfl) ?_
          exact (ze_i (u' := (n, am, S27)) (z := zB (mRch 3 (mMv S a b) t)) hx hb hr (iZ_narz (zB_R _).1 (zB_R _).2).1 hI (zB_iR _) ⟨S27, rfl, by rw [eS27, eS25]; exact mBack hIv.1.2.1 hok.1 (by omega) (by omega) hok.2.1 (mOk_cap hIv.1 hok) hmv, zB_iff ⟨fun q => ⟨hok, q⟩, fun q => q.2⟩⟩ (Nat.le_of_ble_eq_true rfl) (Nat.le_of_ble_eq_true rfl) dX5_isReachedBehind_100 hlocks)
        · skip
          have c13 := zB_0 c13
          refine z_iconst hx hb dX5_isReachedBehind_51 ?_
          exact (ze_i (u' := (n, am, S)) (z := 0) hx hb hr (iZ_narz (by omega) (by omega)).1 hI (by omega) ⟨S, rfl, mEq.rfl' S, (zB_f (fun q => c13 q.1.2.2.2)).symm⟩ (Nat.le_of_ble_eq_true rfl) (Nat.le_of_ble_eq_true rfl) dX5_isReachedBehind_52 hlocks)
    · skip
      refine z_iconst hx hb dX5_isReachedBehind_14 ?_
      exact (ze_i (u' := (n, am, S)) (z := 0) hx hb hr (iZ_narz (by omega) (by omega)).1 hI (by omega) ⟨S, rfl, mEq.rfl' S, (zB_f (fun q => by have q1 := q.1.1; have q2 := q.1.2.1; omega)).symm⟩ (Nat.le_of_ble_eq_true rfl) (Nat.le_of_ble_eq_true rfl) dX5_isReachedBehind_15 hlocks)
set_option maxHeartbeats 4000000 in
set_option maxRecDepth 100000 in
theorem c_X5_isReachedWith_4 (l : Launch) (D : va_G) (cA : Nat → ClassId) (n : Nat → Nat) (am : ts_Am) (S : ts_St) (sz : Nat) (t v : Int) (hW : mW n S) (ht0 : 0 ≤ t ∧ t < 40) (hIv : mIv S t) (hv : v = 4) : Met l yX5_isReachedWith wsX5_isReachedWith ({ frames := 10, cells := 0, slots := 0, locals := 249 } : Room) (va_Pc [.ref (am 0 0), .int (iZ t), .int (iZ v)] (zP TM D cA (n, am, S) sz)) (zQi TM D cA (n, am, S) sz (fun z u => ∃ S9, u = (n, am, S9) ∧ mEq S S9 ∧ z = zB (mRch 4 S t))) 0 0 (ts_A (n, am, S) sz) := by
  refine zM_of (by decide) rfl (Nat.le_of_ble_eq_true rfl) ?_
  intro p e s m below meth c hx hb hr hts hown hlocks hml hname hK hsz H locs hI ls hl
  subst hsz
  have hown : s.vm.findClass RX5 = some m.cls := hown
  have hl : lv_has ls 6 [(0, .ref (am 0 0)), (1, .int (iZ t)), (2, .int (iZ v))] := hl
  have f70 := hts (.fieldLink RX5 70 "DockyardSlotsModel" "lanes" "I") (by decide +kernel)
  have LX5 : ∀ w ∈ wsX50, w.before [.ref (am 0 0), .int (iZ t), .int (iZ v)].toArray s = true := fun w h => hts w (List.mem_cons_of_mem _ (List.mem_append_left _ (List.mem_append_right _ h)))
  have hlc := hIv.1.1.1
  have hsr := mSlot_R (S := S) (t := t) hlc.2 hIv.1.2.1
  have hsi := hIv.2.2
  have hahR := mAhead_R hIv.1.2.1 hIv.2.2
  refine lv_aload_n hx hb dX5_isReachedWith_0 rfl (lv_at hl 0 rfl) ?_
  refine lv_iload_n hx hb dX5_isReachedWith_1 rfl (lv_at hl 1 rfl) ?_
  refine zc_i (zrV (As := [.int (iZ t)]) (rest := []) (κ := 0) (i := 0) ⟨hx, hb, hml, hown, hts⟩ (c_X5_ahead l D cA n am S H.size t hW (by omega) hIv.1.1.1 hIv.1.2.1 (by omega)) (cwV 1 hts gX5_isReachedWith_X5_ahead rfl rfl rfl (by decide +kernel) ⟨Nat.le_of_ble_eq_true rfl, Nat.le_of_ble_eq_true rfl⟩) hK hI (hW.1 0 (by decide)) rfl rfl rfl hl.1 rfl (Nat.le_of_ble_eq_true rfl) dX5_isReachedWith_2 ⟨Nat.le_of_ble_eq_true rfl, Nat.le_of_ble_eq_true rfl⟩) hI (fun z1 u9 H locs hz2 hp3 hI hfr => ?_)
  clear hfr
  obtain ⟨rfl, rfl⟩ := hp3
  refine z_if_ne (tgt := 10) hx hb dX5_isReachedWith_5 (by decide) (by omega) (fun c4 => ?_) (fun c4 => ?_)
  · skip
    have hah0 := c4
    refine lv_aload_n hx hb dX5_isReachedWith_10 rfl (lv_at hl 0 rfl) ?_
    refine lv_iload_n hx hb dX5_isReachedWith_11 rfl (lv_at hl 1 rfl) ?_
    refine zc_i (zrV (As := [.int (iZ t)]) (rest := []) (κ := 0) (i := 0) ⟨hx, hb, hml, hown, hts⟩ (c_X5_ahead l D cA n am S H.size t hW (by omega) hIv.1.1.1 hIv.1.2.1 (by omega)) (cwV 1 hts gX5_isReachedWith_X5_ahead rfl rfl rfl (by decide +kernel) ⟨Nat.le_of_ble_eq_true rfl, Nat.le_of_ble_eq_true rfl⟩) hK hI (hW.1 0 (by decide)) rfl rfl rfl hl.1 rfl (Nat.le_of_ble_eq_true rfl) dX5_isReachedWith_12 ⟨Nat.le_of_ble_eq_true rfl, Nat.le_of_ble_eq_true rfl⟩) hI (fun z5 u9 H locs hz6 hp7 hI hfr => ?_)
    clear hfr
    obtain ⟨rfl, rfl⟩ := hp7
    refine lv_iload_n hx hb dX5_isReachedWith_15 rfl (lv_at hl 2 rfl) ?_
    refine z_icmp_le (tgt := 21) hx hb dX5_isReachedWith_16 (by decide) (by omega) (by omega) (fun c8 => ?_) (fun c8 => ?_)
    · skip
      refine z_iconst hx hb dX5_isReachedWith_21 ?_
      refine lv_istore_n (lv' := [(3, .int (iZ 0)), (0, .ref (am 0 0)), (1, .int (iZ t)), (2, .int (iZ v))]) hx hb dX5_isReachedWith_22 rfl hl (by decide) rfl (fun ls hl => ?_)
      refine z_iconst hx hb dX5_isReachedWith_23 ?_
      refine lv_istore (lv' := [(4, .int (iZ 0)), (3, .int (iZ 0)), (0, .ref (am 0 0)), (1, .int (iZ t)), (2, .int (iZ v))]) hx hb dX5_isReachedWith_24 hl (by decide) rfl (fun ls hl => ?_)
      obtain ⟨x, e_x⟩ : ∃ z : Int, z = 0 := ⟨_, rfl⟩
      obtain ⟨y, e_y⟩ : ∃ z : Int, z = 0 := ⟨_, rfl⟩
      replace hl : lv_has ls 6 [(4, .int (iZ y)), (3, .int (iZ x)), (0, .ref (am 0 0)), (1, .int (iZ t)), (2, .int (iZ v))] := by rw [e_x, e_y]; exact hl
      obtain ⟨S1, e_S1⟩ : ∃ z, z = S := ⟨_, rfl⟩
      rw [← e_S1] at hI
      replace hW : mW n S1 := by rw [e_S1]; exact hW
      have h1 : 0 ≤ y ∧ y ≤ S 0 0 0 := by have := hIv.1.1.1; omega
      have h2 : mEq S S1 := by rw [e_S1]; exact mEq.rfl' S
      have h3 : x = zB (mEx 3 S t y) := by rw [e_x, e_y]; exact (zB_f mEx_0).symm
      have h4 : 0 ≤ x ∧ x < 2 := by omega
      obtain ⟨k26, hk26⟩ : ∃ k : Nat, S 0 0 0 - y < (k : Int) := ⟨(S 0 0 0 - y).toNat + 1, by omega⟩
      clear e_x e_y e_S1
      induction k26 generalizing x y S1 H locs ls with
      | zero => omega
      | succ k26 ih26 =>
        have h10 := h2.1 0 0 0 (by decide)
        refine lv_iload_n hx hb dX5_isReachedWith_26 rfl (lv_at hl 1 rfl) ?_
        refine z_if_ne (tgt := 78) hx hb dX5_isReachedWith_27 (by decide) (by omega) (fun c9 => ?_) (fun c9 => ?_)
        · skip
          refine lv_iload_n hx hb dX5_isReachedWith_78 rfl (lv_at hl 1 rfl) ?_
          exact (ze_i (u' := (n, am, S1)) (z := x) hx hb hr (iZ_narz (by omega) (by omega)).1 hI (by omega) ⟨S1, rfl, h2, by rw [h3] at c9 ⊢; rw [zB_t (zB_1 c9), zB_t (mRch_ex hah0 (by omega) (zB_1 c9) (by omega))]⟩ (Nat.le_of_ble_eq_true rfl) (Nat.le_of_ble_eq_true rfl) dX5_isReachedWith_79 hlocks)
        · skip
          refine lv_iload hx hb dX5_isReachedWith_30 (lv_at hl 0 rfl) ?_
          refine lv_aload_n hx hb dX5_isReachedWith_32 rfl (lv_at hl 2 rfl) ?_
          refine zg_i (κ := 0) (i := 0) (k := 0) hx hb LX5 hown hK hI (hW.1 0 (by decide)) rfl rfl (by decide) rfl f70 (fun _ h9 => h9) dX5_isReachedWith_33 rfl (fun b10 => ?_)
          refine z_icmp_ge (tgt := 78) hx hb dX5_isReachedWith_36 (by decide) (by omega) (by omega) (fun c11 => ?_) (fun c11 => ?_)
          · skip
            refine lv_iload_n hx hb dX5_isReachedWith_78 rfl (lv_at hl 1 rfl) ?_
            exact (ze_i (u' := (n, am, S1)) (z := x) hx hb hr (iZ_narz (by omega) (by omega)).1 hI (by omega) ⟨S1, rfl, h2, by rw [h3] at c9 ⊢; rw [zB_f (zB_0 c9), zB_f (mRch_nex hah0 (zB_0 c9) (by omega))]⟩ (Nat.le_of_ble_eq_true rfl) (Nat.le_of_ble_eq_true rfl) dX5_isReachedWith_79 hlocks)
          · skip
            refine z_iconst hx hb dX5_isReachedWith_39 ?_
            refine lv_istore (lv' := [(5, .int (iZ 0)), (4, .int (iZ y)), (3, .int (iZ x)), (0, .ref (am 0 0)), (1, .int (iZ t)), (2, .int (iZ v))]) hx hb dX5_isReachedWith_40 hl (by decide) rfl (fun ls hl => ?_)
            obtain ⟨x2, e_x2⟩ : ∃ z : Int, z = x := ⟨_, rfl⟩
            obtain ⟨w, e_w⟩ : ∃ z : Int, z = 0 := ⟨_, rfl⟩
            replace hl : lv_has ls 6 [(5, .int (iZ w)), (4, .int (iZ y)), (3, .int (iZ x2)), (0, .ref (am 0 0)), (1, .int (iZ t)), (2, .int (iZ v))] := by rw [e_x2, e_w]; exact hl
            obtain ⟨S2, e_S2⟩ : ∃ z, z = S1 := ⟨_, rfl⟩
            rw [← e_S2] at hI
            replace hW : mW n S2 := by rw [e_S2]; exact hW
            have h1b : 0 ≤ w ∧ w ≤ S 0 0 0 := by have := hIv.1.1.1; omega
            have h5 : mEq S S2 := by rw [e_S2]; exact h2
            have h6 : x2 = zB (mEx2 3 S t y w) := by rw [e_x2, e_w, h3]; exact (zB_iff mEx2_0).symm
            have h7 : 0 ≤ x2 ∧ x2 < 2 := by omega
            obtain ⟨k42, hk42⟩ : ∃ k : Nat, S 0 0 0 - w < (k : Int) := ⟨(S 0 0 0 - w).toNat + 1, by omega⟩
            clear e_x2 e_w e_S2
            induction k42 generalizing x2 w S2 H locs ls with
            | zero => omega
            | succ k42 ih42 =>
              have h11 := h5.1 0 0 0 (by decide)
              refine lv_iload_n hx hb dX5_isReachedWith_42 rfl (lv_at hl 2 rfl) ?_
              refine z_if_ne (tgt := 72) hx hb dX5_isReachedWith_43 (by decide) (by omega) (fun c12 => ?_) (fun c12 => ?_)
              · skip
                refine z_iinc (k := 1) (lv' := [(4, .int (iZ (y + 1))), (5, .int (iZ w)), (3, .int (iZ x2)), (0, .ref (am 0 0)), (1, .int (iZ t)), (2, .int (iZ v))]) hx hb dX5_isReachedWith_72 hl rfl (by decide) rfl (fun ls hl => ?_)
                refine lv_goto (tgt := 26) hx hb dX5_isReachedWith_75 (by decide) ?_
                exact ih26 (x := x2) (y := (y + 1)) (S1 := S2) (h1 := by omega) (h2 := by exact h5) (h3 := by rw [h6] at c12 ⊢; have q := zB_1 c12; rw [zB_t q, zB_t (mEx_s (by omega) q (by omega))]) (h4 := by omega) (hW := hW) (hk26 := by omega) (hI := hI) (hl := lv_sub hl [0, 2, 3, 4, 5] rfl)
              · skip
                have hIv2 := h5.Iv hIv
                have hlc := hIv.1.1.1
                refine lv_iload hx hb dX5_isReachedWith_46 (lv_at hl 0 rfl) ?_
                refine lv_aload_n hx hb dX5_isReachedWith_48 rfl (lv_at hl 3 rfl) ?_
                refine zg_i (κ := 0) (i := 0) (k := 0) hx hb LX5 hown hK hI (hW.1 0 (by decide)) rfl rfl (by decide) rfl f70 (fun _ h9 => h9) dX5_isReachedWith_49 rfl (fun b13 => ?_)
                refine z_icmp_ge (tgt := 72) hx hb dX5_isReachedWith_52 (by decide) (by omega) (by omega) (fun c14 => ?_) (fun c14 => ?_)
                · skip
                  refine z_iinc (k := 1) (lv' := [(4, .int (iZ (y + 1))), (5, .int (iZ w)), (3, .int (iZ x2)), (0, .ref (am 0 0)), (1, .int (iZ t)), (2, .int (iZ v))]) hx hb dX5_isReachedWith_72 hl rfl (by decide) rfl (fun ls hl => ?_)
                  refine lv_goto (tgt := 26) hx hb dX5_isReachedWith_75 (by decide) ?_
                  exact ih26 (x := x2) (y := (y + 1)) (S1 := S2) (h1 := by omega) (h2 := by exact h5) (h3 := by rw [h6] at c12 ⊢; have q := zB_0 c12; rw [zB_f q, zB_f (mEx_n q (by omega))]) (h4 := by omega) (hW := hW) (hk26 := by omega) (hI := hI) (hl := lv_sub hl [0, 2, 3, 4, 5] rfl)
                · skip
                  refine lv_aload_n hx hb dX5_isReachedWith_55 rfl (lv_at hl 3 rfl) ?_
                  refine lv_iload_n hx hb dX5_isReachedWith_56 rfl (lv_at hl 4 rfl) ?_
                  refine lv_iload hx hb dX5_isReachedWith_57 (lv_at hl 1 rfl) ?_
                  refine lv_iload hx hb dX5_isReachedWith_59 (lv_at hl 0 rfl) ?_
                  refine lv_iload_n hx hb dX5_isReachedWith_61 rfl (lv_at hl 5 rfl) ?_
                  refine zc_i (zrV (As := [.int (iZ t), .int (iZ y), .int (iZ w), .int (iZ v)]) (rest := []) (κ := 0) (i := 0) ⟨hx, hb, hml, hown, hts⟩ (c_X5_isReachedBehind_4 l D cA n am S2 H.size t y w v hW (by omega) hIv2 (by omega) (by omega) (by omega)) (cwV 4 hts gX5_isReachedWith_X5_isReachedBehind rfl rfl rfl (by decide +kernel) ⟨Nat.le_of_ble_eq_true rfl, Nat.le_of_ble_eq_true rfl⟩) hK hI (hW.1 0 (by decide)) rfl rfl rfl hl.1 rfl (Nat.le_of_ble_eq_true rfl) dX5_isReachedWith_62 ⟨Nat.le_of_ble_eq_true rfl, Nat.le_of_ble_eq_true rfl⟩) hI (fun z15 u9 H locs hz16 hp17 hI hfr => ?_)
                  clear hfr
                  obtain ⟨S18, rfl, hS18, rfl⟩ := hp17
                  have hW : mW n S18 := hS18.W hW
                  refine lv_istore_n (lv' := [(3, .int (iZ (zB (mT 3 S2 t y w)))), (5, .int (iZ w)), (4, .int (iZ y)), (0, .ref (am 0 0)), (1, .int (iZ t)), (2, .int (iZ v))]) hx hb dX5_isReachedWith_65 rfl hl (by decide) rfl (fun ls hl => ?_)
                  refine z_iinc (k := 1) (lv' := [(5, .int (iZ (w + 1))), (3, .int (iZ (zB (mT 3 S2 t y w)))), (4, .int (iZ y)), (0, .ref (am 0 0)), (1, .int (iZ t)), (2, .int (iZ v))]) hx hb dX5_isReachedWith_66 hl rfl (by decide) rfl (fun ls hl => ?_)
                  refine lv_goto (tgt := 42) hx hb dX5_isReachedWith_69 (by decide) ?_
                  exact ih42 (x2 := zB (mT 3 S2 t y w)) (w := (w + 1)) (S2 := S18) (h1b := by omega) (h5 := by exact h5.trans hS18) (h6 := by have q := zB_0 (by rw [← h6]; exact c12); rw [zB_iff (mT_eq (d := 3) h5 hIv (by omega) (by omega)), zB_iff (mEx2_s q (by omega))]) (h7 := by exact zB_R _) (hW := hW) (hk42 := by omega) (hI := hI) (hl := lv_sub hl [0, 2, 1, 3, 4, 5] rfl)
    · skip
      refine z_iconst hx hb dX5_isReachedWith_19 ?_
      exact (ze_i (u' := (n, am, S)) (z := 0) hx hb hr (iZ_narz (by omega) (by omega)).1 hI (by omega) ⟨S, rfl, mEq.rfl' S, (zB_f (mRch_le hah0 (by omega))).symm⟩ (Nat.le_of_ble_eq_true rfl) (Nat.le_of_ble_eq_true rfl) dX5_isReachedWith_20 hlocks)
  · skip
    refine z_iconst hx hb dX5_isReachedWith_8 ?_
    exact (ze_i (u' := (n, am, S)) (z := 1) hx hb hr (iZ_narz (by omega) (by omega)).1 hI (by omega) ⟨S, rfl, mEq.rfl' S, (zB_t (Or.inl c4)).symm⟩ (Nat.le_of_ble_eq_true rfl) (Nat.le_of_ble_eq_true rfl) dX5_isReachedWith_9 hlocks)
