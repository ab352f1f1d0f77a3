/-! The model's two shares and its passing of hours. -/
theorem nn_32 {x : UInt32} (h : Jvm.FP.Core.fIsNaN x = false) : vf_n32 x := by
  unfold vf_n32
  rw [UInt32.le_iff_toNat_le, UInt32.toNat_and]
  have h1 : (0x7fffffff : UInt32).toNat = 2 ^ 31 - 1 := by decide
  have h2 : (0x7f800000 : UInt32).toNat = 2139095040 := by decide
  rw [h1, h2, Nat.and_two_pow_sub_one_eq_mod]
  rw [← Bool.not_eq_true, Jvm.FP.Core.isNaN_bits32] at h
  omega
theorem nn_64 {x : UInt64} (h : Jvm.FP.Core.dIsNaN x = false) : vf_n64 x := by
  unfold vf_n64
  rw [UInt64.le_iff_toNat_le, UInt64.toNat_and]
  have h1 : (0x7fffffffffffffff : UInt64).toNat = 2 ^ 63 - 1 := by decide
  have h2 : (0x7ff0000000000000 : UInt64).toNat = 9218868437227405312 := by decide
  rw [h1, h2, Nat.and_two_pow_sub_one_eq_mod]
  rw [← Bool.not_eq_true, Jvm.FP.Core.isNaN_bits] at h
  omega
theorem iZ_ne0 {z : Int} (hR : iR z) (h : ¬ z = 0) : iZ z ≠ 0 := fun q => h ((iZ_eq (b := 0) hR (by decide)).mp q)
theorem nn_f (a : Int32) {b : Int32} (h : b ≠ 0) : vf_n32 (FP.fdiv (FP.i2f a) (FP.i2f b)) :=
  nn_32 (Jvm.FP.Core.fdiv_out (Jvm.FP.Core.i2f_fin a).notNaN (Jvm.FP.Core.i2f_fin b) (fun q => Jvm.FP.Core.i2f_ne_zero h ((Jvm.FP.Core.zero_bits232 _).mp q)))
theorem nn_d (a : Int32) {b : Int32} (h : b ≠ 0) : vf_n64 (FP.ddiv (FP.i2d a) (FP.i2d b)) :=
  nn_64 (Jvm.FP.Core.ddiv_out (Jvm.FP.Core.i2d_fin a).notNaN (Jvm.FP.Core.i2d_fin b) (fun q => Jvm.FP.Core.i2d_ne_zero h ((Jvm.FP.Core.zero_bits2 _).mp q)))
def mUsed (S : ts_St) : Nat → Int
  | 0 => 0
  | k + 1 => mUsed S k + (if S 7 0 k < 0 then 0 else 1)
theorem mUsed_s {S : ts_St} {y : Int} (h : 0 ≤ y) : mUsed S (y + 1).toNat = mUsed S y.toNat + (if S 7 0 y.toNat < 0 then 0 else 1) := by
  obtain ⟨k, rfl⟩ := Int.eq_ofNat_of_zero_le h
  rfl
def kUsed (S : ts_St) : Int := if S 0 0 5 = 0 then 1 else 0
def mMS (S : ts_St) : Nat → Int
  | 0 => 0
  | k + 1 => if S 12 0 k = 98 ∨ S 12 0 k = 110 then mMS S k else mMS S k + mWait S k
def mMN (S : ts_St) : Nat → Int
  | 0 => 0
  | k + 1 => if S 12 0 k = 98 ∨ S 12 0 k = 110 then mMN S k else mMN S k + 1
theorem mMS_s {S : ts_St} {y : Int} (h : 0 ≤ y) : mMS S (y + 1).toNat = if S 12 0 y.toNat = 98 ∨ S 12 0 y.toNat = 110 then mMS S y.toNat else mMS S y.toNat + mWait S y.toNat := by
  obtain ⟨k, rfl⟩ := Int.eq_ofNat_of_zero_le h
  rfl
theorem mMN_s {S : ts_St} {y : Int} (h : 0 ≤ y) : mMN S (y + 1).toNat = if S 12 0 y.toNat = 98 ∨ S 12 0 y.toNat = 110 then mMN S y.toNat else mMN S y.toNat + 1 := by
  obtain ⟨k, rfl⟩ := Int.eq_ofNat_of_zero_le h
  rfl
def kMean (S : ts_St) : Int := if mMN S (S 0 0 8).toNat = 0 then 1 else 0

set_option maxHeartbeats 4000000 in
set_option maxRecDepth 100000 in
theorem c_X5_usedShare (l : Launch) (D : va_G) (cA : Nat → ClassId) (n : Nat → Nat) (am : ts_Am) (S : ts_St) (sz : Nat)  (hW : mW n S) (hR : mR S) : Met l yX5_usedShare wsX5_usedShare ({ frames := 1, cells := 0, slots := 0, locals := 21 } : Room) (va_Pc [.ref (am 0 0)] (zP TM D cA (n, am, S) sz)) (zQf TM D cA (n, am, S) sz (fun z u => (¬ kUsed S = 0 ∧ u = (n, am, up3 S 0 0 24 (kUsed S))) ∨ (kUsed S = 0 ∧ z = FP.fdiv (FP.i2f (iZ (mUsed S (S 0 0 5).toNat))) (FP.i2f (iZ (S 0 0 5))) ∧ u = (n, am, m0 S 0)))) 0 0 (ts_A (n, am, S) sz) := by
  refine zM_of (by decide) rfl (Nat.le_of_ble_eq_true rfl) ?_
  intro p e s m below meth c hx hb hr hts hown hlocks hml hname hK hsz H locs hI ls hl
  subst hsz
  have hown : s.vm.findClass RX5 = some m.cls := hown
  have hl : lv_has ls 3 [(0, .ref (am 0 0))] := hl
  have f27 := hts (.fieldLink RX5 27 "DockyardSlotsModel" "atDoors" "[I") (by decide +kernel)
  have f84 := hts (.fieldLink RX5 84 "DockyardSlotsModel" "doors" "I") (by decide +kernel)
  have LX5 : ∀ w ∈ wsX50, w.before [.ref (am 0 0)].toArray s = true := fun w h => hts w (List.mem_cons_of_mem _ (List.mem_append_left _ (List.mem_append_right _ h)))
  have hR1 := hR.1
  refine lv_aload_n hx hb dX5_usedShare_0 rfl (lv_at hl 0 rfl) ?_
  refine lv_aload_n hx hb dX5_usedShare_1 rfl (lv_at hl 0 rfl) ?_
  refine zg_i (κ := 0) (i := 0) (k := 5) hx hb LX5 hown hK hI (hW.1 0 (by decide)) rfl rfl (by decide) rfl f84 (fun _ h9 => h9) dX5_usedShare_2 rfl (fun b1 => ?_)
  refine z_if_ne (tgt := 12) hx hb dX5_usedShare_5 (by decide) (by omega) (fun c2 => ?_) (fun c2 => ?_)
  · skip
    refine z_iconst hx hb dX5_usedShare_12 ?_
    refine zc_i (zrV (As := [.int (iZ 0)]) (rest := []) (κ := 0) (i := 0) ⟨hx, hb, hml, hown, hts⟩ (c_X5_fails l D cA n am S H.size 0 hW (by omega)) (cwV 1 hts gX5_usedShare_X5_fails rfl rfl rfl (by decide +kernel) ⟨Nat.le_of_ble_eq_true rfl, Nat.le_of_ble_eq_true rfl⟩) hK hI (hW.1 0 (by decide)) rfl rfl rfl hl.1 rfl (Nat.le_of_ble_eq_true rfl) dX5_usedShare_13 ⟨Nat.le_of_ble_eq_true rfl, Nat.le_of_ble_eq_true rfl⟩) hI (fun z3 u9 H locs hz4 hp5 hI hfr => ?_)
    clear hfr
    obtain ⟨rfl, rfl⟩ := hp5
    obtain ⟨S6, eS6⟩ : ∃ z, z = up3 S 0 0 24 0 := ⟨_, rfl⟩
    rw [← eS6] at hI
    have hW : mW n S6 := by rw [eS6]; exact hW.put rfl
    refine z_if_eq (tgt := 21) hx hb dX5_usedShare_16 (by decide) (by omega) (fun c7 => ?_) (fun c7 => ?_)
    · skip
      have c7 := zB_0 c7
      refine z_iconst hx hb dX5_usedShare_21 ?_
      refine lv_istore_n (lv' := [(1, .int (iZ 0)), (0, .ref (am 0 0))]) hx hb dX5_usedShare_22 rfl hl (by decide) rfl (fun ls hl => ?_)
      refine z_iconst hx hb dX5_usedShare_23 ?_
      refine lv_istore_n (lv' := [(2, .int (iZ 0)), (1, .int (iZ 0)), (0, .ref (am 0 0))]) hx hb dX5_usedShare_24 rfl hl (by decide) rfl (fun ls hl => ?_)
      obtain ⟨x, e_x⟩ : ∃ z : Int, z = 0 := ⟨_, rfl⟩
      obtain ⟨y, e_y⟩ : ∃ z : Int, z = 0 := ⟨_, rfl⟩
      replace hl : lv_has ls 3 [(2, .int (iZ y)), (1, .int (iZ x)), (0, .ref (am 0 0))] := by rw [e_x, e_y]; exact hl
      have h1 : 0 ≤ y ∧ y ≤ S 0 0 5 := by omega
      have h2 : x = mUsed S y.toNat := by rw [e_x, e_y]; rfl
      have h3 : 0 ≤ x ∧ x ≤ y := by omega
      obtain ⟨k25, hk25⟩ : ∃ k : Nat, S 0 0 5 - y < (k : Int) := ⟨(S 0 0 5 - y).toNat + 1, by omega⟩
      clear e_x e_y
      induction k25 generalizing x y H locs ls with
      | zero => omega
      | succ k25 ih25 =>
        refine lv_iload_n hx hb dX5_usedShare_25 rfl (lv_at hl 0 rfl) ?_
        refine lv_aload_n hx hb dX5_usedShare_26 rfl (lv_at hl 2 rfl) ?_
        refine zg_i (κ := 0) (i := 0) (k := 5) hx hb LX5 hown hK hI (hW.1 0 (by decide)) rfl rfl (by decide) rfl f84 (fun _ h9 => h9) dX5_usedShare_27 (by rw [eS6, up3_n (by omega)]) (fun b8 => ?_)
        refine z_icmp_ge (tgt := 56) hx hb dX5_usedShare_30 (by decide) (by omega) (by omega) (fun c9 => ?_) (fun c9 => ?_)
        · skip
          refine lv_iload_n hx hb dX5_usedShare_56 rfl (lv_at hl 1 rfl) ?_
          refine lv_i2f hx hb dX5_usedShare_57 ?_
          refine lv_aload_n hx hb dX5_usedShare_58 rfl (lv_at hl 2 rfl) ?_
          refine zg_i (κ := 0) (i := 0) (k := 5) hx hb LX5 hown hK hI (hW.1 0 (by decide)) rfl rfl (by decide) rfl f84 (fun _ h9 => h9) dX5_usedShare_59 (by rw [eS6, up3_n (by omega)]) (fun b10 => ?_)
          refine lv_i2f hx hb dX5_usedShare_62 ?_
          refine lv_fdiv hx hb dX5_usedShare_63 (nn_f _ (iZ_ne0 (by omega) (by omega))) ?_
          exact (ze_f (u' := (n, am, S6)) (z := (FP.fdiv (FP.i2f (iZ x)) (FP.i2f (iZ (S 0 0 5))))) hx hb hr hI (Or.inr ⟨if_neg (by omega), by rw [show mUsed S (S 0 0 5).toNat = x by rw [h2, show y = S 0 0 5 by omega]], by rw [eS6]⟩) (Nat.le_of_ble_eq_true rfl) (Nat.le_of_ble_eq_true rfl) dX5_usedShare_64 hlocks)
        · skip
          refine lv_iload_n hx hb dX5_usedShare_33 rfl (lv_at hl 1 rfl) ?_
          refine lv_aload_n hx hb dX5_usedShare_34 rfl (lv_at hl 2 rfl) ?_
          refine zg_r (κ := 0) (i := 0) (k := 7) (t := 7) (j := 0) hx hb LX5 hown hK hI (hW.1 0 (by decide)) rfl rfl (by decide) rfl f27 (fun _ h9 => h9) dX5_usedShare_35 (hW.rf 7 rfl) (fun v11 => ?_)
          refine lv_iload_n hx hb dX5_usedShare_38 rfl (lv_at hl 0 rfl) ?_
          refine za_i (κ := 7) (i := 0) hx hb hK hI v11 rfl (by omega) (by omega) (by omega) dX5_usedShare_39 (by rw [eS6, up3_n (by omega)]) (fun b12 => ?_)
          refine z_if_ge (tgt := 47) hx hb dX5_usedShare_40 (by decide) (by omega) (fun c13 => ?_) (fun c13 => ?_)
          · skip
            refine z_iconst hx hb dX5_usedShare_47 ?_
            refine z_iadd hx hb dX5_usedShare_48 ?_
            refine lv_istore_n (lv' := [(1, .int (iZ (x + 1))), (2, .int (iZ y)), (0, .ref (am 0 0))]) hx hb dX5_usedShare_49 rfl hl (by decide) rfl (fun ls hl => ?_)
            refine z_iinc (k := 1) (lv' := [(2, .int (iZ (y + 1))), (1, .int (iZ (x + 1))), (0, .ref (am 0 0))]) hx hb dX5_usedShare_50 hl rfl (by decide) rfl (fun ls hl => ?_)
            refine lv_goto (tgt := 25) hx hb dX5_usedShare_53 (by decide) ?_
            exact ih25 (x := (x + 1)) (y := (y + 1)) (h1 := by omega) (h2 := by rw [mUsed_s (by omega), ← h2]; (first | rw [if_pos (by omega)] | rw [if_neg (by omega)]) <;> omega) (h3 := by omega) (hk25 := by omega) (hI := hI) (hl := lv_sub hl [0, 1, 2] rfl)
          · skip
            refine z_iconst hx hb dX5_usedShare_43 ?_
            refine lv_goto (tgt := 48) hx hb dX5_usedShare_44 (by decide) ?_
            refine z_iadd hx hb dX5_usedShare_48 ?_
            refine lv_istore_n (lv' := [(1, .int (iZ (x + 0))), (2, .int (iZ y)), (0, .ref (am 0 0))]) hx hb dX5_usedShare_49 rfl hl (by decide) rfl (fun ls hl => ?_)
            refine z_iinc (k := 1) (lv' := [(2, .int (iZ (y + 1))), (1, .int (iZ (x + 0))), (0, .ref (am 0 0))]) hx hb dX5_usedShare_50 hl rfl (by decide) rfl (fun ls hl => ?_)
            refine lv_goto (tgt := 25) hx hb dX5_usedShare_53 (by decide) ?_
            exact ih25 (x := (x + 0)) (y := (y + 1)) (h1 := by omega) (h2 := by rw [mUsed_s (by omega), ← h2]; (first | rw [if_pos (by omega)] | rw [if_neg (by omega)]) <;> omega) (h3 := by omega) (hk25 := by omega) (hI := hI) (hl := lv_sub hl [0, 1, 2] rfl)
    · skip
      have c7 := zB_1 c7
      omega
  · skip
    refine z_iconst hx hb dX5_usedShare_8 ?_
    refine lv_goto (tgt := 13) hx hb dX5_usedShare_9 (by decide) ?_
    refine zc_i (zrV (As := [.int (iZ 1)]) (rest := []) (κ := 0) (i := 0) ⟨hx, hb, hml, hown, hts⟩ (c_X5_fails l D cA n am S H.size 1 hW (by omega)) (cwV 1 hts gX5_usedShare_X5_fails rfl rfl rfl (by decide +kernel) ⟨Nat.le_of_ble_eq_true rfl, Nat.le_of_ble_eq_true rfl⟩) hK hI (hW.1 0 (by decide)) rfl rfl rfl hl.1 rfl (Nat.le_of_ble_eq_true rfl) dX5_usedShare_13 ⟨Nat.le_of_ble_eq_true rfl, Nat.le_of_ble_eq_true rfl⟩) hI (fun z14 u9 H locs hz15 hp16 hI hfr => ?_)
    clear hfr
    obtain ⟨rfl, rfl⟩ := hp16
    obtain ⟨S17, eS17⟩ : ∃ z, z = up3 S 0 0 24 1 := ⟨_, rfl⟩
    rw [← eS17] at hI
    have hW : mW n S17 := by rw [eS17]; exact hW.put rfl
    refine z_if_eq (tgt := 21) hx hb dX5_usedShare_16 (by decide) (by omega) (fun c18 => ?_) (fun c18 => ?_)
    · skip
      have c18 := zB_0 c18
      omega
    · skip
      have c18 := zB_1 c18
      refine lv_fconst0 hx hb dX5_usedShare_19 ?_
      exact (ze_f (u' := (n, am, S17)) (z := 0) hx hb hr hI (Or.inl ⟨by rw [show kUsed S = 1 from if_pos (by omega)]; decide, by rw [show kUsed S = 1 from if_pos (by omega), eS17]⟩) (Nat.le_of_ble_eq_true rfl) (Nat.le_of_ble_eq_true rfl) dX5_usedShare_20 hlocks)
set_option maxHeartbeats 4000000 in
set_option maxRecDepth 100000 in
theorem c_X5_meanWaiting (l : Launch) (D : va_G) (cA : Nat → ClassId) (n : Nat → Nat) (am : ts_Am) (S : ts_St) (sz : Nat)  (hW : mW n S) (hR : mR S) : Met l yX5_meanWaiting wsX5_meanWaiting ({ frames := 1, cells := 0, slots := 0, locals := 23 } : Room) (va_Pc [.ref (am 0 0)] (zP TM D cA (n, am, S) sz)) (zQd TM D cA (n, am, S) sz (fun z u => (¬ kMean S = 0 ∧ u = (n, am, up3 S 0 0 24 (kMean S))) ∨ (kMean S = 0 ∧ z = FP.ddiv (FP.i2d (iZ (mMS S (S 0 0 8).toNat))) (FP.i2d (iZ (mMN S (S 0 0 8).toNat))) ∧ u = (n, am, m0 S 0)))) 0 0 (ts_A (n, am, S) sz) := by
  refine zM_of (by decide) rfl (Nat.le_of_ble_eq_true rfl) ?_
  intro p e s m below meth c hx hb hr hts hown hlocks hml hname hK hsz H locs hI ls hl
  subst hsz
  have hown : s.vm.findClass RX5 = some m.cls := hown
  have hl : lv_has ls 4 [(0, .ref (am 0 0))] := hl
  have f39 := hts (.fieldLink RX5 39 "DockyardSlotsModel" "states" "[C") (by decide +kernel)
  have f77 := hts (.fieldLink RX5 77 "DockyardSlotsModel" "booked" "I") (by decide +kernel)
  have LX5 : ∀ w ∈ wsX50, w.before [.ref (am 0 0)].toArray s = true := fun w h => hts w (List.mem_cons_of_mem _ (List.mem_append_left _ (List.mem_append_right _ h)))
  have hR1 := hR.1
  refine z_iconst hx hb dX5_meanWaiting_0 ?_
  refine lv_istore_n (lv' := [(1, .int (iZ 0)), (0, .ref (am 0 0))]) hx hb dX5_meanWaiting_1 rfl hl (by decide) rfl (fun ls hl => ?_)
  refine z_iconst hx hb dX5_meanWaiting_2 ?_
  refine lv_istore_n (lv' := [(2, .int (iZ 0)), (1, .int (iZ 0)), (0, .ref (am 0 0))]) hx hb dX5_meanWaiting_3 rfl hl (by decide) rfl (fun ls hl => ?_)
  refine z_iconst hx hb dX5_meanWaiting_4 ?_
  refine lv_istore_n (lv' := [(3, .int (iZ 0)), (2, .int (iZ 0)), (1, .int (iZ 0)), (0, .ref (am 0 0))]) hx hb dX5_meanWaiting_5 rfl hl (by decide) rfl (fun ls hl => ?_)
  obtain ⟨x, e_x⟩ : ∃ z : Int, z = 0 := ⟨_, rfl⟩
  obtain ⟨w, e_w⟩ : ∃ z : Int, z = 0 := ⟨_, rfl⟩
  obtain ⟨y, e_y⟩ : ∃ z : Int, z = 0 := ⟨_, rfl⟩
  replace hl : lv_has ls 4 [(3, .int (iZ y)), (2, .int (iZ w)), (1, .int (iZ x)), (0, .ref (am 0 0))] := by rw [e_x, e_w, e_y]; exact hl
  have h1 : 0 ≤ y ∧ y ≤ S 0 0 8 := by omega
  have h2 : x = mMS S y.toNat := by rw [e_x, e_y]; rfl
  have h3 : w = mMN S y.toNat := by rw [e_w, e_y]; rfl
  have h4 : 0 ≤ x ∧ x ≤ 100000 * y := by omega
  have h5 : 0 ≤ w ∧ w ≤ y := by omega
  obtain ⟨k6, hk6⟩ : ∃ k : Nat, S 0 0 8 - y < (k : Int) := ⟨(S 0 0 8 - y).toNat + 1, by omega⟩
  clear e_x e_w e_y
  induction k6 generalizing x w y H locs ls with
  | zero => omega
  | succ k6 ih6 =>
    refine lv_iload_n hx hb dX5_meanWaiting_6 rfl (lv_at hl 0 rfl) ?_
    refine lv_aload_n hx hb dX5_meanWaiting_7 rfl (lv_at hl 3 rfl) ?_
    refine zg_i (κ := 0) (i := 0) (k := 8) hx hb LX5 hown hK hI (hW.1 0 (by decide)) rfl rfl (by decide) rfl f77 (fun _ h9 => h9) dX5_meanWaiting_8 rfl (fun b1 => ?_)
    refine z_icmp_ge (tgt := 56) hx hb dX5_meanWaiting_11 (by decide) (by omega) (by omega) (fun c2 => ?_) (fun c2 => ?_)
    · skip
      have hyb : y = S 0 0 8 := by omega
      refine lv_aload_n hx hb dX5_meanWaiting_56 rfl (lv_at hl 3 rfl) ?_
      refine lv_iload_n hx hb dX5_meanWaiting_57 rfl (lv_at hl 1 rfl) ?_
      refine z_if_ne (tgt := 65) hx hb dX5_meanWaiting_58 (by decide) (by omega) (fun c3 => ?_) (fun c3 => ?_)
      · skip
        have hKm : kMean S = 0 := if_neg (by rw [← hyb, ← h3]; omega)
        refine z_iconst hx hb dX5_meanWaiting_65 ?_
        refine zc_i (zrV (As := [.int (iZ 0)]) (rest := []) (κ := 0) (i := 0) ⟨hx, hb, hml, hown, hts⟩ (c_X5_fails l D cA n am S H.size 0 hW (by omega)) (cwV 1 hts gX5_meanWaiting_X5_fails rfl rfl rfl (by decide +kernel) ⟨Nat.le_of_ble_eq_true rfl, Nat.le_of_ble_eq_true rfl⟩) hK hI (hW.1 0 (by decide)) rfl rfl rfl hl.1 rfl (Nat.le_of_ble_eq_true rfl) dX5_meanWaiting_66 ⟨Nat.le_of_ble_eq_true rfl, Nat.le_of_ble_eq_true rfl⟩) hI (fun z4 u9 H locs hz5 hp6 hI hfr => ?_)
        clear hfr
        obtain ⟨rfl, rfl⟩ := hp6
        obtain ⟨S7, eS7⟩ : ∃ z, z = up3 S 0 0 24 0 := ⟨_, rfl⟩
        rw [← eS7] at hI
        have hW : mW n S7 := by rw [eS7]; exact hW.put rfl
        refine z_if_eq (tgt := 76) hx hb dX5_meanWaiting_69 (by decide) (by omega) (fun c8 => ?_) (fun c8 => ?_)
        · skip
          have c8 := zB_0 c8
          refine lv_iload_n hx hb dX5_meanWaiting_76 rfl (lv_at hl 2 rfl) ?_
          refine lv_i2d hx hb dX5_meanWaiting_77 ?_
          refine lv_iload_n hx hb dX5_meanWaiting_78 rfl (lv_at hl 1 rfl) ?_
          refine lv_i2d hx hb dX5_meanWaiting_79 ?_
          refine lv_ddiv hx hb dX5_meanWaiting_80 (nn_d _ (iZ_ne0 (by omega) (by omega))) ?_
          exact (ze_d (u' := (n, am, S7)) (z := (FP.ddiv (FP.i2d (iZ x)) (FP.i2d (iZ w)))) hx hb hr hI (Or.inr ⟨hKm, by rw [show mMS S (S 0 0 8).toNat = x by rw [h2, hyb], show mMN S (S 0 0 8).toNat = w by rw [h3, hyb]], by rw [eS7]⟩) (Nat.le_of_ble_eq_true rfl) (Nat.le_of_ble_eq_true rfl) dX5_meanWaiting_81 hlocks)
        · skip
          have c8 := zB_1 c8
          omega
      · skip
        have hKm : kMean S = 1 := if_pos (by rw [← hyb, ← h3]; omega)
        refine z_iconst hx hb dX5_meanWaiting_61 ?_
        refine lv_goto (tgt := 66) hx hb dX5_meanWaiting_62 (by decide) ?_
        refine zc_i (zrV (As := [.int (iZ 1)]) (rest := []) (κ := 0) (i := 0) ⟨hx, hb, hml, hown, hts⟩ (c_X5_fails l D cA n am S H.size 1 hW (by omega)) (cwV 1 hts gX5_meanWaiting_X5_fails rfl rfl rfl (by decide +kernel) ⟨Nat.le_of_ble_eq_true rfl, Nat.le_of_ble_eq_true rfl⟩) hK hI (hW.1 0 (by decide)) rfl rfl rfl hl.1 rfl (Nat.le_of_ble_eq_true rfl) dX5_meanWaiting_66 ⟨Nat.le_of_ble_eq_true rfl, Nat.le_of_ble_eq_true rfl⟩) hI (fun z9 u9 H locs hz10 hp11 hI hfr => ?_)
        clear hfr
        obtain ⟨rfl, rfl⟩ := hp11
        obtain ⟨S12, eS12⟩ : ∃ z, z = up3 S 0 0 24 1 := ⟨_, rfl⟩
        rw [← eS12] at hI
        have hW : mW n S12 := by rw [eS12]; exact hW.put rfl
        refine z_if_eq (tgt := 76) hx hb dX5_meanWaiting_69 (by decide) (by omega) (fun c13 => ?_) (fun c13 => ?_)
        · skip
          have c13 := zB_0 c13
          omega
        · skip
          have c13 := zB_1 c13
          refine lv_dconst0 hx hb dX5_meanWaiting_72 ?_
          refine lv_goto (tgt := 81) hx hb dX5_meanWaiting_73 (by decide) ?_
          exact (ze_d (u' := (n, am, S12)) (z := 0) hx hb hr hI (Or.inl ⟨by rw [hKm]; decide, by rw [hKm, eS12]⟩) (Nat.le_of_ble_eq_true rfl) (Nat.le_of_ble_eq_true rfl) dX5_meanWaiting_81 hlocks)
    · skip
      refine lv_aload_n hx hb dX5_meanWaiting_14 rfl (lv_at hl 3 rfl) ?_
      refine zg_r (κ := 0) (i := 0) (k := 12) (t := 12) (j := 0) hx hb LX5 hown hK hI (hW.1 0 (by decide)) rfl rfl (by decide) rfl f39 (fun _ h9 => h9) dX5_meanWaiting_15 (hW.rf 12 rfl) (fun v14 => ?_)
      refine lv_iload_n hx hb dX5_meanWaiting_18 rfl (lv_at hl 0 rfl) ?_
      refine za_c (κ := 12) (i := 0) hx hb hK hI v14 rfl (by omega) (by omega) (by omega) dX5_meanWaiting_19 rfl (fun b15 => ?_)
      refine z_bipush hx hb dX5_meanWaiting_20 (by decide) ?_
      refine z_icmp_eq (tgt := 50) hx hb dX5_meanWaiting_22 (by decide) (by omega) (by omega) (fun c16 => ?_) (fun c16 => ?_)
      · skip
        refine z_iinc (k := 0) (lv' := [(3, .int (iZ (y + 1))), (2, .int (iZ w)), (1, .int (iZ x)), (0, .ref (am 0 0))]) hx hb dX5_meanWaiting_50 hl rfl (by decide) rfl (fun ls hl => ?_)
        refine lv_goto (tgt := 6) hx hb dX5_meanWaiting_53 (by decide) ?_
        exact ih6 (x := x) (w := w) (y := (y + 1)) (h1 := by omega) (h2 := by rw [mMS_s (by omega), ← h2]; (first | rw [if_pos (by omega)] | rw [if_neg (by omega)]) <;> omega) (h3 := by rw [mMN_s (by omega), ← h3]; (first | rw [if_pos (by omega)] | rw [if_neg (by omega)]) <;> omega) (h4 := by omega) (h5 := by omega) (hk6 := by omega) (hI := hI) (hl := lv_sub hl [0, 1, 2, 3] rfl)
      · skip
        refine lv_aload_n hx hb dX5_meanWaiting_25 rfl (lv_at hl 3 rfl) ?_
        refine zg_r (κ := 0) (i := 0) (k := 12) (t := 12) (j := 0) hx hb LX5 hown hK hI (hW.1 0 (by decide)) rfl rfl (by decide) rfl f39 (fun _ h9 => h9) dX5_meanWaiting_26 (hW.rf 12 rfl) (fun v17 => ?_)
        refine lv_iload_n hx hb dX5_meanWaiting_29 rfl (lv_at hl 0 rfl) ?_
        refine za_c (κ := 12) (i := 0) hx hb hK hI v17 rfl (by omega) (by omega) (by omega) dX5_meanWaiting_30 rfl (fun b18 => ?_)
        refine z_bipush hx hb dX5_meanWaiting_31 (by decide) ?_
        refine z_icmp_ne (tgt := 39) hx hb dX5_meanWaiting_33 (by decide) (by omega) (by omega) (fun c19 => ?_) (fun c19 => ?_)
        · skip
          refine lv_iload_n hx hb dX5_meanWaiting_39 rfl (lv_at hl 2 rfl) ?_
          refine lv_aload_n hx hb dX5_meanWaiting_40 rfl (lv_at hl 3 rfl) ?_
          refine lv_iload_n hx hb dX5_meanWaiting_41 rfl (lv_at hl 0 rfl) ?_
          have hwt := mWait_R hR y.toNat
          refine zc_i (zrV (As := [.int (iZ y)]) (rest := [.int (iZ x)]) (κ := 0) (i := 0) ⟨hx, hb, hml, hown, hts⟩ (c_X5_waits l D cA n am S H.size y hW (by omega)) (cwV 1 hts gX5_meanWaiting_X5_waits rfl rfl rfl (by decide +kernel) ⟨Nat.le_of_ble_eq_true rfl, Nat.le_of_ble_eq_true rfl⟩) hK hI (hW.1 0 (by decide)) rfl rfl rfl hl.1 rfl (Nat.le_of_ble_eq_true rfl) dX5_meanWaiting_42 ⟨Nat.le_of_ble_eq_true rfl, Nat.le_of_ble_eq_true rfl⟩) hI (fun z20 u9 H locs hz21 hp22 hI hfr => ?_)
          clear hfr
          obtain ⟨rfl, rfl⟩ := hp22
          refine z_iadd hx hb dX5_meanWaiting_45 ?_
          refine lv_istore_n (lv' := [(1, .int (iZ (x + mWait S y.toNat))), (3, .int (iZ y)), (2, .int (iZ w)), (0, .ref (am 0 0))]) hx hb dX5_meanWaiting_46 rfl hl (by decide) rfl (fun ls hl => ?_)
          refine z_iinc (k := 2) (lv' := [(2, .int (iZ (w + 1))), (1, .int (iZ (x + mWait S y.toNat))), (3, .int (iZ y)), (0, .ref (am 0 0))]) hx hb dX5_meanWaiting_47 hl rfl (by decide) rfl (fun ls hl => ?_)
          refine z_iinc (k := 2) (lv' := [(3, .int (iZ (y + 1))), (2, .int (iZ (w + 1))), (1, .int (iZ (x + mWait S y.toNat))), (0, .ref (am 0 0))]) hx hb dX5_meanWaiting_50 hl rfl (by decide) rfl (fun ls hl => ?_)
          refine lv_goto (tgt := 6) hx hb dX5_meanWaiting_53 (by decide) ?_
          exact ih6 (x := (x + mWait S y.toNat)) (w := (w + 1)) (y := (y + 1)) (h1 := by omega) (h2 := by rw [mMS_s (by omega), ← h2]; (first | rw [if_pos (by omega)] | rw [if_neg (by omega)]) <;> omega) (h3 := by rw [mMN_s (by omega), ← h3]; (first | rw [if_pos (by omega)] | rw [if_neg (by omega)]) <;> omega) (h4 := by omega) (h5 := by omega) (hk6 := by omega) (hI := hI) (hl := lv_sub hl [0, 1, 2, 3] rfl)
        · skip
          refine lv_goto (tgt := 50) hx hb dX5_meanWaiting_36 (by decide) ?_
          refine z_iinc (k := 0) (lv' := [(3, .int (iZ (y + 1))), (2, .int (iZ w)), (1, .int (iZ x)), (0, .ref (am 0 0))]) hx hb dX5_meanWaiting_50 hl rfl (by decide) rfl (fun ls hl => ?_)
          refine lv_goto (tgt := 6) hx hb dX5_meanWaiting_53 (by decide) ?_
          exact ih6 (x := x) (w := w) (y := (y + 1)) (h1 := by omega) (h2 := by rw [mMS_s (by omega), ← h2]; (first | rw [if_pos (by omega)] | rw [if_neg (by omega)]) <;> omega) (h3 := by rw [mMN_s (by omega), ← h3]; (first | rw [if_pos (by omega)] | rw [if_neg (by omega)]) <;> omega) (h4 := by omega) (h5 := by omega) (hk6 := by omega) (hI := hI) (hl := lv_sub hl [0, 1, 2, 3] rfl)
