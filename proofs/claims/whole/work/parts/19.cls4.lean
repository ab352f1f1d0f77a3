/-! The class's calls, second part. -/
def yUsed (S : ts_St) : Nat → Int
  | 0 => 0
  | k + 1 => yUsed S k + (if S 7 k 1 = 0 then 0 else 1)
theorem yUsed_s {S : ts_St} {y : Int} (h : 0 ≤ y) : yUsed S (y + 1).toNat = yUsed S y.toNat + (if S 7 y.toNat 1 = 0 then 0 else 1) := by
  obtain ⟨k, rfl⟩ := Int.eq_ofNat_of_zero_le h
  rfl
def yMS (S : ts_St) : Nat → Int
  | 0 => 0
  | k + 1 => if ¬ S 8 k 4 = 98 ∧ ¬ S 8 k 4 = 110 then yMS S k + yWait S k else yMS S k
def yMN (S : ts_St) : Nat → Int
  | 0 => 0
  | k + 1 => if ¬ S 8 k 4 = 98 ∧ ¬ S 8 k 4 = 110 then yMN S k + 1 else yMN S k
theorem yMS_s {S : ts_St} {y : Int} (h : 0 ≤ y) : yMS S (y + 1).toNat = if ¬ S 8 y.toNat 4 = 98 ∧ ¬ S 8 y.toNat 4 = 110 then yMS S y.toNat + yWait S y.toNat else yMS S y.toNat := by
  obtain ⟨k, rfl⟩ := Int.eq_ofNat_of_zero_le h
  rfl
theorem yMN_s {S : ts_St} {y : Int} (h : 0 ≤ y) : yMN S (y + 1).toNat = if ¬ S 8 y.toNat 4 = 98 ∧ ¬ S 8 y.toNat 4 = 110 then yMN S y.toNat + 1 else yMN S y.toNat := by
  obtain ⟨k, rfl⟩ := Int.eq_ofNat_of_zero_le h
  rfl
def yNext (S : ts_St) : Nat → Int
  | 0 => -1
  | k + 1 => if S 8 k 4 = 98 ∧ (yNext S k < 0 ∨ S 8 k 1 < S 8 (yNext S k).toNat 1) then (k : Int) else yNext S k
theorem yNext_s {S : ts_St} {y : Int} (h : 0 ≤ y) : yNext S (y + 1).toNat = if S 8 y.toNat 4 = 98 ∧ (yNext S y.toNat < 0 ∨ S 8 y.toNat 1 < S 8 (yNext S y.toNat).toNat 1) then y else yNext S y.toNat := by
  obtain ⟨k, rfl⟩ := Int.eq_ofNat_of_zero_le h
  rfl
def yPs (S : ts_St) (T : Int) (k : Nat) : Int := if S 8 k 4 = 98 ∧ 24 < T - S 8 k 1 then 110 else S 8 k 4
def yPn (S : ts_St) (T : Int) : Nat → Int
  | 0 => 0
  | k + 1 => yPn S T k + (if S 8 k 4 = 98 ∧ 24 < T - S 8 k 1 then 1 else 0)
theorem yPn_s {S : ts_St} {T y : Int} (h : 0 ≤ y) : yPn S T (y + 1).toNat = yPn S T y.toNat + (if S 8 y.toNat 4 = 98 ∧ 24 < T - S 8 y.toNat 1 then 1 else 0) := by
  obtain ⟨k, rfl⟩ := Int.eq_ofNat_of_zero_le h
  rfl
/-- at the hour T the first w appointments are looked at -/
def gY (S : ts_St) (T : Int) (w : Nat) : ts_St := fun a b c => if a = 8 ∧ c = 4 ∧ b < w then yPs S T b else if a = 0 ∧ b = 0 ∧ c = 10 then T else S a b c
theorem gY_0 (S : ts_St) (T : Int) : up3 S 0 0 10 T = gY S T 0 := by
  funext a b c
  unfold up3 gY
  rw [if_neg (c := a = 8 ∧ c = 4 ∧ b < 0) (by omega)]
theorem gY_same {S : ts_St} {T : Int} {w : Nat} (h : yPs S T w = S 8 w 4) : gY S T w = gY S T (w + 1) := by
  funext a b c
  unfold gY
  by_cases h1 : a = 8 ∧ c = 4 ∧ b < w
  · rw [if_pos h1, if_pos (by omega)]
  · rw [if_neg h1]
    by_cases h2 : a = 8 ∧ c = 4 ∧ b = w
    · obtain ⟨rfl, rfl, rfl⟩ := h2
      rw [if_neg (by omega), if_pos (by omega), h]
    · rw [if_neg (c := a = 8 ∧ c = 4 ∧ b < w + 1) (by omega)]
theorem gY_set {S : ts_St} {T : Int} {w : Nat} (h : yPs S T w = 110) : up3 (gY S T w) 8 w 4 110 = gY S T (w + 1) := by
  funext a b c
  unfold up3 gY
  by_cases h2 : a = 8 ∧ b = w ∧ c = 4
  · obtain ⟨rfl, rfl, rfl⟩ := h2
    rw [if_pos (by omega), if_pos (by omega), h]
  · rw [if_neg h2]
    by_cases h1 : a = 8 ∧ c = 4 ∧ b < w
    · rw [if_pos h1, if_pos (by omega)]
    · rw [if_neg h1, if_neg (c := a = 8 ∧ c = 4 ∧ b < w + 1) (by omega)]
theorem gY_10 (S : ts_St) (T : Int) (w : Nat) : gY S T w 0 0 10 = T := by
  unfold gY
  rw [if_neg (by omega), if_pos ⟨rfl, rfl, rfl⟩]
theorem gY_1 (S : ts_St) (T : Int) (w k : Nat) : gY S T w 8 k 1 = S 8 k 1 := by
  unfold gY
  rw [if_neg (by omega), if_neg (by omega)]
theorem gY_4 (S : ts_St) (T : Int) (w : Nat) : gY S T w 8 w 4 = S 8 w 4 := by
  unfold gY
  rw [if_neg (by omega), if_neg (by omega)]

set_option maxHeartbeats 4000000 in
set_option maxRecDepth 100000 in
theorem c_X4_nextBooked (l : Launch) (hfl : l.stackTraces = false) (D : va_G) (cA : Nat → ClassId) (n : Nat → Nat) (am : ts_Am) (S : ts_St) (sz : Nat)  (hW : cW n S) : vx_Met l yX4_nextBooked wsX4_nextBooked ({ frames := 6, cells := 1, slots := 6, locals := 90 } : Room) (va_Pc [.ref (am 0 0)] (zPX TX D cA (n, am, S) sz)) (zQi TX D cA (n, am, S) sz (fun z u => 0 ≤ yNext S (n 8) ∧ z = yNext S (n 8) ∧ u = (n, am, S))) (zXX TX D cA (n, am, S) sz (fun E => E = xN_NSE ∧ yNext S (n 8) < 0)) 1 6 (ts_A (n, am, S) sz) := by
  refine zMx_of (by decide) rfl (Nat.le_of_ble_eq_true rfl) ?_
  intro p e s m below meth c hx hb hr hts hown hlocks hml hex hK hG hsz H locs hI ls hl
  subst hsz
  have hown : s.vm.findClass RX4 = some m.cls := hown
  have hl : lv_has ls 4 [(0, .ref (am 0 0))] := hl
  have f102 := hts (.fieldLink RX4 102 "DockyardSlots$Appointment" "state" "C") (by decide +kernel)
  have f139 := hts (.fieldLink RX4 139 "DockyardSlots$Appointment" "hour" "I") (by decide +kernel)
  have f147 := hts (.fieldLink RX4 147 "DockyardSlots$Appointment" "number" "I") (by decide +kernel)
  have f24 := hts (.fieldLink RX4 24 "DockyardSlots" "appointments" "[LDockyardSlots$Appointment;") (by decide +kernel)
  have f86 := hts (.fieldLink RX4 86 "DockyardSlots" "appointmentCount" "I") (by decide +kernel)
  have LX0 : ∀ w ∈ wsX00, w.before [.ref (am 0 0)].toArray s = true := fun w h => hts w (List.mem_cons_of_mem _ (List.mem_append_left _ (List.mem_append_right _ h)))
  have LX4 : ∀ w ∈ wsX40, w.before [.ref (am 0 0)].toArray s = true := fun w h => hts w (List.mem_cons_of_mem _ (List.mem_append_left _ (List.mem_append_left _ (List.mem_append_right _ h))))
  have hcn := hW.cn
  have hlim := hW.lim
  refine lv_null hx hb dX4_nextBooked_0 ?_
  refine lv_astore_nN (lv' := [(1, .null), (0, .ref (am 0 0))]) hx hb dX4_nextBooked_1 rfl hl (by decide) rfl (fun ls hl => ?_)
  refine z_iconst hx hb dX4_nextBooked_2 ?_
  refine lv_istore_n (lv' := [(2, .int (iZ 0)), (1, .null), (0, .ref (am 0 0))]) hx hb dX4_nextBooked_3 rfl hl (by decide) rfl (fun ls hl => ?_)
  obtain ⟨y, e_y⟩ : ∃ z : Int, z = 0 := ⟨_, rfl⟩
  obtain ⟨b, e_b⟩ : ∃ z : Int, z = -1 := ⟨_, rfl⟩
  replace hl : lv_has ls 4 [(2, .int (iZ y)), (1, ts_V am (8 + 2) b), (0, .ref (am 0 0))] := by rw [e_y, e_b]; rw [ts_V_null _ _ (by decide)]; exact hl
  have h1 : 0 ≤ y ∧ y ≤ (n 8 : Int) := by omega
  have h2 : b = yNext S y.toNat := by rw [e_b, e_y]; rfl
  have h3 : -1 ≤ b ∧ b < (n 8 : Int) := by omega
  obtain ⟨k4, hk4⟩ : ∃ k : Nat, (n 8 : Int) - y < (k : Int) := ⟨((n 8 : Int) - y).toNat + 1, by omega⟩
  clear e_y e_b
  induction k4 generalizing y b H locs ls with
  | zero => omega
  | succ k4 ih4 =>
    refine lv_iload_n hx hb dX4_nextBooked_4 rfl (lv_at hl 0 rfl) ?_
    refine lv_aload_n hx hb dX4_nextBooked_5 rfl (lv_at hl 2 rfl) ?_
    refine zg_i (κ := 0) (i := 0) (k := 4) hx hb LX4 hown hK hI hW.1.1 rfl rfl (by decide) rfl f86 (fun _ h9 => h9) dX4_nextBooked_6 rfl (fun b1 => ?_)
    refine z_icmp_ge (tgt := 64) hx hb dX4_nextBooked_9 (by decide) (by omega) (by omega) (fun c2 => ?_) (fun c2 => ?_)
    · skip
      by_cases hq3 : b < 0
      · skip
        rw [ts_V_null _ _ hq3] at hl
        refine lv_aload_nN hx hb dX4_nextBooked_64 rfl (lv_at hl 1 rfl) ?_
        refine lv_ifnonnullN hx hb dX4_nextBooked_65 ?_
        exact zx_throw (text := "no appointment is booked") hx hb hfl hown hG hI xC_NSE xF_NSE (hts _ (by decide +kernel)) (hts _ (by decide +kernel)) (fun w h => hts w (List.mem_cons_of_mem _ (List.mem_append_right _ h))) xA_NSE xO_NSE (by decide +kernel) (by rw [hml]; exact hl.1) dX4_nextBooked_68 dX4_nextBooked_71 dX4_nextBooked_72 dX4_nextBooked_74 dX4_nextBooked_77 hex (Nat.le_of_ble_eq_true rfl) (Nat.le_of_ble_eq_true rfl) (Nat.le_of_ble_eq_true rfl) (Nat.le_of_ble_eq_true rfl) hlocks ⟨rfl, by rw [show n 8 = y.toNat by omega]; omega⟩ (Nat.le_of_ble_eq_true rfl) (Nat.le_of_ble_eq_true rfl)
      · skip
        obtain ⟨j4, rfl⟩ := Int.eq_ofNat_of_zero_le (Int.not_lt.mp hq3)
        rw [ts_V_ref] at hl
        have v5 : j4 < n 8 := by omega
        refine lv_aload_n hx hb dX4_nextBooked_64 rfl (lv_at hl 1 rfl) ?_
        refine lv_ifnonnull (tgt := 78) hx hb dX4_nextBooked_65 (by decide) ?_
        refine lv_aload_n hx hb dX4_nextBooked_78 rfl (lv_at hl 1 rfl) ?_
        refine zg_i (κ := 8) (i := j4) (k := 0) hx hb LX0 hown hK hI v5 rfl rfl (by decide) rfl f147 (fun _ h9 => h9) dX4_nextBooked_79 rfl (fun b6 => ?_)
        exact vx_ret (ze_i (u' := (n, am, S)) (z := S 8 j4 0) hx hb hr rfl hI (by omega) ⟨by rw [show n 8 = y.toNat by omega]; omega, by rw [show n 8 = y.toNat by omega, hW.an (by omega)]; exact h2, rfl⟩ (Nat.le_of_ble_eq_true rfl) (Nat.le_of_ble_eq_true rfl) dX4_nextBooked_82 hlocks)
    · skip
      refine lv_iload_n hx hb dX4_nextBooked_12 rfl (lv_at hl 0 rfl) ?_
      refine lv_aload_n hx hb dX4_nextBooked_13 rfl (lv_at hl 2 rfl) ?_
      refine zg_r (κ := 0) (i := 0) (k := 3) (t := 4) (j := 0) hx hb LX4 hown hK hI hW.1.1 rfl rfl (by decide) rfl f24 (fun _ h9 => h9) dX4_nextBooked_14 hW.2.1.2.2.1 (fun v7 => ?_)
      refine zal hx hb hK hI v7 rfl dX4_nextBooked_17 ?_
      refine z_icmp_ge (tgt := 64) hx hb dX4_nextBooked_18 (by decide) (by omega) (by omega) (fun c8 => ?_) (fun c8 => ?_)
      · skip
        by_cases hq9 : b < 0
        · skip
          rw [ts_V_null _ _ hq9] at hl
          refine lv_aload_nN hx hb dX4_nextBooked_64 rfl (lv_at hl 1 rfl) ?_
          refine lv_ifnonnullN hx hb dX4_nextBooked_65 ?_
          exact zx_throw (text := "no appointment is booked") hx hb hfl hown hG hI xC_NSE xF_NSE (hts _ (by decide +kernel)) (hts _ (by decide +kernel)) (fun w h => hts w (List.mem_cons_of_mem _ (List.mem_append_right _ h))) xA_NSE xO_NSE (by decide +kernel) (by rw [hml]; exact hl.1) dX4_nextBooked_68 dX4_nextBooked_71 dX4_nextBooked_72 dX4_nextBooked_74 dX4_nextBooked_77 hex (Nat.le_of_ble_eq_true rfl) (Nat.le_of_ble_eq_true rfl) (Nat.le_of_ble_eq_true rfl) (Nat.le_of_ble_eq_true rfl) hlocks ⟨rfl, by rw [show n 8 = y.toNat by omega]; omega⟩ (Nat.le_of_ble_eq_true rfl) (Nat.le_of_ble_eq_true rfl)
        · skip
          obtain ⟨j10, rfl⟩ := Int.eq_ofNat_of_zero_le (Int.not_lt.mp hq9)
          rw [ts_V_ref] at hl
          have v11 : j10 < n 8 := by omega
          refine lv_aload_n hx hb dX4_nextBooked_64 rfl (lv_at hl 1 rfl) ?_
          refine lv_ifnonnull (tgt := 78) hx hb dX4_nextBooked_65 (by decide) ?_
          refine lv_aload_n hx hb dX4_nextBooked_78 rfl (lv_at hl 1 rfl) ?_
          refine zg_i (κ := 8) (i := j10) (k := 0) hx hb LX0 hown hK hI v11 rfl rfl (by decide) rfl f147 (fun _ h9 => h9) dX4_nextBooked_79 rfl (fun b12 => ?_)
          exact vx_ret (ze_i (u' := (n, am, S)) (z := S 8 j10 0) hx hb hr rfl hI (by omega) ⟨by rw [show n 8 = y.toNat by omega]; omega, by rw [show n 8 = y.toNat by omega, hW.an (by omega)]; exact h2, rfl⟩ (Nat.le_of_ble_eq_true rfl) (Nat.le_of_ble_eq_true rfl) dX4_nextBooked_82 hlocks)
      · skip
        refine lv_aload_n hx hb dX4_nextBooked_21 rfl (lv_at hl 2 rfl) ?_
        refine zg_r (κ := 0) (i := 0) (k := 3) (t := 4) (j := 0) hx hb LX4 hown hK hI hW.1.1 rfl rfl (by decide) rfl f24 (fun _ h9 => h9) dX4_nextBooked_22 hW.2.1.2.2.1 (fun v13 => ?_)
        refine lv_iload_n hx hb dX4_nextBooked_25 rfl (lv_at hl 0 rfl) ?_
        refine za_r (κ := 4) (i := 0) (t := 8) (k := y.toNat) hx hb hK hI v13 rfl (by omega) (by omega) (by omega) dX4_nextBooked_26 (hW.aa (by omega)) (fun v14 => ?_)
        refine lv_astore_n (lv' := [(3, .ref (am 8 y.toNat)), (2, .int (iZ y)), (1, ts_V am (8 + 2) b), (0, .ref (am 0 0))]) hx hb dX4_nextBooked_27 rfl hl (by decide) rfl (fun ls hl => ?_)
        refine lv_aload_n hx hb dX4_nextBooked_28 rfl (lv_at hl 0 rfl) ?_
        refine lv_ifnull hx hb dX4_nextBooked_29 ?_
        refine lv_aload_n hx hb dX4_nextBooked_32 rfl (lv_at hl 0 rfl) ?_
        refine zg_i (κ := 8) (i := y.toNat) (k := 4) hx hb LX0 hown hK hI v14 rfl rfl (by decide) rfl f102 (fun _ h9 => h9) dX4_nextBooked_33 rfl (fun b15 => ?_)
        refine z_bipush hx hb dX4_nextBooked_36 (by decide) ?_
        refine z_icmp_ne (tgt := 58) hx hb dX4_nextBooked_38 (by decide) (by omega) (by omega) (fun c16 => ?_) (fun c16 => ?_)
        · skip
          by_cases hq17 : b < 0
          · skip
            rw [ts_V_null _ _ hq17] at hl
            refine z_iinc (k := 1) (lv' := [(2, .int (iZ (y + 1))), (3, .ref (am 8 y.toNat)), (1, .null), (0, .ref (am 0 0))]) hx hb dX4_nextBooked_58 hl rfl (by decide) rfl (fun ls hl => ?_)
            refine lv_goto (tgt := 4) hx hb dX4_nextBooked_61 (by decide) ?_
            exact ih4 (y := (y + 1)) (b := -1) (h1 := by omega) (h2 := by rw [yNext_s (by omega), ← h2]; (try simp only [Int.toNat_natCast]); (first | rw [if_pos (by omega)] | rw [if_neg (by omega)]) <;> omega) (h3 := by omega) (hk4 := by omega) (hI := hI) (hl := by first | exact lv_sub hl [0, 2, 3] rfl | (rw [ts_V_ref]; exact lv_sub hl [0, 2, 3] rfl) | (rw [ts_V_null _ _ (by omega)]; exact lv_sub hl [0, 2, 3] rfl))
          · skip
            obtain ⟨j18, rfl⟩ := Int.eq_ofNat_of_zero_le (Int.not_lt.mp hq17)
            rw [ts_V_ref] at hl
            have v19 : j18 < n 8 := by omega
            refine z_iinc (k := 1) (lv' := [(2, .int (iZ (y + 1))), (3, .ref (am 8 y.toNat)), (1, .ref (am 8 j18)), (0, .ref (am 0 0))]) hx hb dX4_nextBooked_58 hl rfl (by decide) rfl (fun ls hl => ?_)
            refine lv_goto (tgt := 4) hx hb dX4_nextBooked_61 (by decide) ?_
            exact ih4 (y := (y + 1)) (b := (j18 : Int)) (h1 := by omega) (h2 := by rw [yNext_s (by omega), ← h2]; (try simp only [Int.toNat_natCast]); (first | rw [if_pos (by omega)] | rw [if_neg (by omega)]) <;> omega) (h3 := by omega) (hk4 := by omega) (hI := hI) (hl := by first | exact lv_sub hl [0, 2, 3] rfl | (rw [ts_V_ref]; exact lv_sub hl [0, 2, 3] rfl) | (rw [ts_V_null _ _ (by omega)]; exact lv_sub hl [0, 2, 3] rfl))
        · skip
          by_cases hq20 : b < 0
          · skip
            rw [ts_V_null _ _ hq20] at hl
            refine lv_aload_nN hx hb dX4_nextBooked_41 rfl (lv_at hl 2 rfl) ?_
            refine lv_ifnullN (tgt := 56) hx hb dX4_nextBooked_42 (by decide) ?_
            refine lv_aload_n hx hb dX4_nextBooked_56 rfl (lv_at hl 0 rfl) ?_
            refine lv_astore_n (lv' := [(1, .ref (am 8 y.toNat)), (3, .ref (am 8 y.toNat)), (2, .int (iZ y)), (0, .ref (am 0 0))]) hx hb dX4_nextBooked_57 rfl hl (by decide) rfl (fun ls hl => ?_)
            refine z_iinc (k := 2) (lv' := [(2, .int (iZ (y + 1))), (1, .ref (am 8 y.toNat)), (3, .ref (am 8 y.toNat)), (0, .ref (am 0 0))]) hx hb dX4_nextBooked_58 hl rfl (by decide) rfl (fun ls hl => ?_)
            refine lv_goto (tgt := 4) hx hb dX4_nextBooked_61 (by decide) ?_
            exact ih4 (y := (y + 1)) (b := (y.toNat : Int)) (h1 := by omega) (h2 := by rw [yNext_s (by omega), ← h2]; (try simp only [Int.toNat_natCast]); (first | rw [if_pos (by omega)] | rw [if_neg (by omega)]) <;> omega) (h3 := by omega) (hk4 := by omega) (hI := hI) (hl := by first | exact lv_sub hl [0, 1, 3] rfl | (rw [ts_V_ref]; exact lv_sub hl [0, 1, 3] rfl) | (rw [ts_V_null _ _ (by omega)]; exact lv_sub hl [0, 1, 3] rfl))
          · skip
            obtain ⟨j21, rfl⟩ := Int.eq_ofNat_of_zero_le (Int.not_lt.mp hq20)
            rw [ts_V_ref] at hl
            have v22 : j21 < n 8 := by omega
            refine lv_aload_n hx hb dX4_nextBooked_41 rfl (lv_at hl 2 rfl) ?_
            refine lv_ifnull hx hb dX4_nextBooked_42 ?_
            refine lv_aload_n hx hb dX4_nextBooked_45 rfl (lv_at hl 0 rfl) ?_
            refine zg_i (κ := 8) (i := y.toNat) (k := 1) hx hb LX0 hown hK hI v14 rfl rfl (by decide) rfl f139 (fun _ h9 => h9) dX4_nextBooked_46 rfl (fun b23 => ?_)
            refine lv_aload_n hx hb dX4_nextBooked_49 rfl (lv_at hl 2 rfl) ?_
            refine zg_i (κ := 8) (i := j21) (k := 1) hx hb LX0 hown hK hI v22 rfl rfl (by decide) rfl f139 (fun _ h9 => h9) dX4_nextBooked_50 rfl (fun b24 => ?_)
            refine z_icmp_ge (tgt := 58) hx hb dX4_nextBooked_53 (by decide) (by omega) (by omega) (fun c25 => ?_) (fun c25 => ?_)
            · skip
              refine z_iinc (k := 1) (lv' := [(2, .int (iZ (y + 1))), (3, .ref (am 8 y.toNat)), (1, .ref (am 8 j21)), (0, .ref (am 0 0))]) hx hb dX4_nextBooked_58 hl rfl (by decide) rfl (fun ls hl => ?_)
              refine lv_goto (tgt := 4) hx hb dX4_nextBooked_61 (by decide) ?_
              exact ih4 (y := (y + 1)) (b := (j21 : Int)) (h1 := by omega) (h2 := by rw [yNext_s (by omega), ← h2]; (try simp only [Int.toNat_natCast]); (first | rw [if_pos (by omega)] | rw [if_neg (by omega)]) <;> omega) (h3 := by omega) (hk4 := by omega) (hI := hI) (hl := by first | exact lv_sub hl [0, 2, 3] rfl | (rw [ts_V_ref]; exact lv_sub hl [0, 2, 3] rfl) | (rw [ts_V_null _ _ (by omega)]; exact lv_sub hl [0, 2, 3] rfl))
            · skip
              refine lv_aload_n hx hb dX4_nextBooked_56 rfl (lv_at hl 0 rfl) ?_
              refine lv_astore_n (lv' := [(1, .ref (am 8 y.toNat)), (3, .ref (am 8 y.toNat)), (2, .int (iZ y)), (0, .ref (am 0 0))]) hx hb dX4_nextBooked_57 rfl hl (by decide) rfl (fun ls hl => ?_)
              refine z_iinc (k := 2) (lv' := [(2, .int (iZ (y + 1))), (1, .ref (am 8 y.toNat)), (3, .ref (am 8 y.toNat)), (0, .ref (am 0 0))]) hx hb dX4_nextBooked_58 hl rfl (by decide) rfl (fun ls hl => ?_)
              refine lv_goto (tgt := 4) hx hb dX4_nextBooked_61 (by decide) ?_
              exact ih4 (y := (y + 1)) (b := (y.toNat : Int)) (h1 := by omega) (h2 := by rw [yNext_s (by omega), ← h2]; (try simp only [Int.toNat_natCast]); (first | rw [if_pos (by omega)] | rw [if_neg (by omega)]) <;> omega) (h3 := by omega) (hk4 := by omega) (hI := hI) (hl := by first | exact lv_sub hl [0, 1, 3] rfl | (rw [ts_V_ref]; exact lv_sub hl [0, 1, 3] rfl) | (rw [ts_V_null _ _ (by omega)]; exact lv_sub hl [0, 1, 3] rfl))
set_option maxHeartbeats 4000000 in
set_option maxRecDepth 100000 in
theorem c_X4_freeDoor (l : Launch) (hfl : l.stackTraces = false) (D : va_G) (cA : Nat → ClassId) (n : Nat → Nat) (am : ts_Am) (S : ts_St) (sz : Nat) (x : Int) (hW : cW n S) (hx0 : iR x) : vx_Met l yX4_freeDoor wsX4_freeDoor ({ frames := 7, cells := 2, slots := 12, locals := 112 } : Room) (va_Pc [.ref (am 0 0), .int (iZ x)] (zPX TX D cA (n, am, S) sz)) (zQi TX D cA (n, am, S) sz (fun z u => ((0 ≤ x ∧ x < (n 8 : Int)) ∧ 0 ≤ yFree S x.toNat (n 7)) ∧ z = yFree S x.toNat (n 7) ∧ u = (n, am, S))) (zXX TX D cA (n, am, S) sz (fun E => (E = xN_NSE ∧ ¬ (0 ≤ x ∧ x < (n 8 : Int))) ∨ (E = xN_ISE ∧ (0 ≤ x ∧ x < (n 8 : Int)) ∧ yFree S x.toNat (n 7) < 0))) 2 12 (ts_A (n, am, S) sz) := by
  refine zMx_of (by decide) rfl (Nat.le_of_ble_eq_true rfl) ?_
  intro p e s m below meth c hx hb hr hts hown hlocks hml hex hK hG hsz H locs hI ls hl
  subst hsz
  have hown : s.vm.findClass RX4 = some m.cls := hown
  have hl : lv_has ls 6 [(0, .ref (am 0 0)), (1, .int (iZ x))] := hl
  have f69 := hts (.fieldLink RX4 69 "DockyardSlots" "doorCount" "I") (by decide +kernel)
  have LX4 : ∀ w ∈ wsX40, w.before [.ref (am 0 0), .int (iZ x)].toArray s = true := fun w h => hts w (List.mem_cons_of_mem _ (List.mem_append_left _ (List.mem_append_left _ (List.mem_append_left _ (List.mem_append_left _ (List.mem_append_right _ h))))))
  have hcn := hW.cn
  have hlim := hW.lim
  refine lv_aload_n hx hb dX4_freeDoor_0 rfl (lv_at hl 0 rfl) ?_
  refine lv_iload_n hx hb dX4_freeDoor_1 rfl (lv_at hl 1 rfl) ?_
  refine zxc_q (zxV (As := [.int (iZ x)]) (rest := []) (κ := 0) (i := 0) ⟨hx, hb, hml, hown, hts⟩ (c_X4_appointmentOrThrow l hfl D cA n am S H.size x hW (by omega)) (cwV 1 hts gX4_freeDoor_X4_appointmentOrThrow rfl rfl rfl (by decide +kernel) ⟨Nat.le_of_ble_eq_true rfl, Nat.le_of_ble_eq_true rfl⟩) hK hI hG hW.1.1 rfl rfl rfl hl.1 rfl (Nat.le_of_ble_eq_true rfl) dX4_freeDoor_2 ⟨Nat.le_of_ble_eq_true rfl, Nat.le_of_ble_eq_true rfl⟩) hI hex hlocks (fun E q => Or.inl q) (Nat.le_of_ble_eq_true rfl) (Nat.le_of_ble_eq_true rfl) (fun z u q => q.1.1) (fun j1 u9 H locs v2 hp3 hI => ?_)
  obtain ⟨⟨q4, q5, q6⟩, rfl⟩ := hp3
  obtain rfl : j1 = x.toNat := by omega
  have v2 : x.toNat < n 8 := v2
  refine lv_astore_n (lv' := [(2, .ref (am 8 x.toNat)), (0, .ref (am 0 0)), (1, .int (iZ x))]) hx hb dX4_freeDoor_5 rfl hl (by decide) rfl (fun ls hl => ?_)
  refine z_iconst hx hb dX4_freeDoor_6 ?_
  refine lv_istore_n (lv' := [(3, .int (iZ (-1))), (2, .ref (am 8 x.toNat)), (0, .ref (am 0 0)), (1, .int (iZ x))]) hx hb dX4_freeDoor_7 rfl hl (by decide) rfl (fun ls hl => ?_)
  refine z_iconst hx hb dX4_freeDoor_8 ?_
  refine lv_istore (lv' := [(4, .int (iZ 0)), (3, .int (iZ (-1))), (2, .ref (am 8 x.toNat)), (0, .ref (am 0 0)), (1, .int (iZ x))]) hx hb dX4_freeDoor_9 hl (by decide) rfl (fun ls hl => ?_)
  obtain ⟨v, e_v⟩ : ∃ z : Int, z = (-1) := ⟨_, rfl⟩
  obtain ⟨y, e_y⟩ : ∃ z : Int, z = 0 := ⟨_, rfl⟩
  replace hl : lv_has ls 6 [(4, .int (iZ y)), (3, .int (iZ v)), (2, .ref (am 8 x.toNat)), (0, .ref (am 0 0)), (1, .int (iZ x))] := by rw [e_v, e_y]; exact hl
  have h1 : 0 ≤ y ∧ y ≤ (n 7 : Int) := by omega
  have h2 : v = yFree S x.toNat y.toNat := by rw [e_v, e_y]; rfl
  have h3 : -1 ≤ v ∧ v < (n 7 : Int) := by omega
  obtain ⟨k11, hk11⟩ : ∃ k : Nat, (n 7 : Int) - y < (k : Int) := ⟨((n 7 : Int) - y).toNat + 1, by omega⟩
  clear e_v e_y
  induction k11 generalizing v y H locs ls with
  | zero => omega
  | succ k11 ih11 =>
    refine lv_iload hx hb dX4_freeDoor_11 (lv_at hl 0 rfl) ?_
    refine lv_aload_n hx hb dX4_freeDoor_13 rfl (lv_at hl 3 rfl) ?_
    refine zg_i (κ := 0) (i := 0) (k := 2) hx hb LX4 hown hK hI hW.1.1 rfl rfl (by decide) rfl f69 (fun _ h9 => h9) dX4_freeDoor_14 rfl (fun b7 => ?_)
    refine z_icmp_ge (tgt := 55) hx hb dX4_freeDoor_17 (by decide) (by omega) (by omega) (fun c8 => ?_) (fun c8 => ?_)
    · skip
      refine lv_iload_n hx hb dX4_freeDoor_55 rfl (lv_at hl 1 rfl) ?_
      refine z_if_ge (tgt := 69) hx hb dX4_freeDoor_56 (by decide) (by omega) (fun c9 => ?_) (fun c9 => ?_)
      · skip
        have hfu : yFree S x.toNat (n 7) = yFree S x.toNat y.toNat := by rw [show n 7 = y.toNat + (n 7 - y.toNat) by omega]; exact yFree_up (by omega) _
        refine lv_iload_n hx hb dX4_freeDoor_69 rfl (lv_at hl 1 rfl) ?_
        exact vx_ret (ze_i (u' := (n, am, S)) (z := v) hx hb hr rfl hI (by omega) ⟨⟨by omega, by rw [hfu]; omega⟩, by rw [hfu]; omega, rfl⟩ (Nat.le_of_ble_eq_true rfl) (Nat.le_of_ble_eq_true rfl) dX4_freeDoor_70 hlocks)
      · skip
        exact zx_throw (text := "there is no such door") hx hb hfl hown hG hI xC_ISE xF_ISE (hts _ (by decide +kernel)) (hts _ (by decide +kernel)) (fun w h => hts w (List.mem_cons_of_mem _ (List.mem_append_left _ (List.mem_append_right _ h)))) xA_ISE xO_ISE (by decide +kernel) (by rw [hml]; exact hl.1) dX4_freeDoor_59 dX4_freeDoor_62 dX4_freeDoor_63 dX4_freeDoor_65 dX4_freeDoor_68 hex (Nat.le_of_ble_eq_true rfl) (Nat.le_of_ble_eq_true rfl) (Nat.le_of_ble_eq_true rfl) (Nat.le_of_ble_eq_true rfl) hlocks (Or.inr (⟨rfl, by omega, by rw [show n 7 = y.toNat by omega]; omega⟩)) (Nat.le_of_ble_eq_true rfl) (Nat.le_of_ble_eq_true rfl)
    · skip
      refine lv_iload_n hx hb dX4_freeDoor_20 rfl (lv_at hl 1 rfl) ?_
      refine z_if_ge (tgt := 55) hx hb dX4_freeDoor_21 (by decide) (by omega) (fun c10 => ?_) (fun c10 => ?_)
      · skip
        refine lv_iload_n hx hb dX4_freeDoor_55 rfl (lv_at hl 1 rfl) ?_
        refine z_if_ge (tgt := 69) hx hb dX4_freeDoor_56 (by decide) (by omega) (fun c11 => ?_) (fun c11 => ?_)
        · skip
          have hfu : yFree S x.toNat (n 7) = yFree S x.toNat y.toNat := by rw [show n 7 = y.toNat + (n 7 - y.toNat) by omega]; exact yFree_up (by omega) _
          refine lv_iload_n hx hb dX4_freeDoor_69 rfl (lv_at hl 1 rfl) ?_
          exact vx_ret (ze_i (u' := (n, am, S)) (z := v) hx hb hr rfl hI (by omega) ⟨⟨by omega, by rw [hfu]; omega⟩, by rw [hfu]; omega, rfl⟩ (Nat.le_of_ble_eq_true rfl) (Nat.le_of_ble_eq_true rfl) dX4_freeDoor_70 hlocks)
        · skip
          exact zx_throw (text := "there is no such door") hx hb hfl hown hG hI xC_ISE xF_ISE (hts _ (by decide +kernel)) (hts _ (by decide +kernel)) (fun w h => hts w (List.mem_cons_of_mem _ (List.mem_append_left _ (List.mem_append_right _ h)))) xA_ISE xO_ISE (by decide +kernel) (by rw [hml]; exact hl.1) dX4_freeDoor_59 dX4_freeDoor_62 dX4_freeDoor_63 dX4_freeDoor_65 dX4_freeDoor_68 hex (Nat.le_of_ble_eq_true rfl) (Nat.le_of_ble_eq_true rfl) (Nat.le_of_ble_eq_true rfl) (Nat.le_of_ble_eq_true rfl) hlocks (Or.inr (⟨rfl, by omega, by rw [show n 7 = y.toNat by omega]; omega⟩)) (Nat.le_of_ble_eq_true rfl) (Nat.le_of_ble_eq_true rfl)
      · skip
        refine lv_aload_n hx hb dX4_freeDoor_24 rfl (lv_at hl 3 rfl) ?_
        refine lv_iload hx hb dX4_freeDoor_25 (lv_at hl 0 rfl) ?_
        refine zc_q (zrV (As := [.int (iZ y)]) (rest := []) (κ := 0) (i := 0) ⟨hx, hb, hml, hown, hts⟩ (c_X4_doorAt l D cA n am S H.size y hW (by omega)) (cwV 1 hts gX4_freeDoor_X4_doorAt rfl rfl rfl (by decide +kernel) ⟨Nat.le_of_ble_eq_true rfl, Nat.le_of_ble_eq_true rfl⟩) hK hI hW.1.1 rfl rfl rfl hl.1 rfl (Nat.le_of_ble_eq_true rfl) dX4_freeDoor_27 ⟨Nat.le_of_ble_eq_true rfl, Nat.le_of_ble_eq_true rfl⟩) hI (fun u9 H locs hp14 hI hfr => ?_) (fun j15 u9 H locs v16 hp14 hI hfr => ?_)
        · clear hfr
          obtain ⟨ez12, rfl⟩ := hp14
          have hd17 : ¬ (0 ≤ y ∧ y < (n 7 : Int)) := fun q => by rw [if_pos q] at ez12; omega
          omega
        · clear hfr
          obtain ⟨ej15, rfl⟩ := hp14
          have hd18 : 0 ≤ y ∧ y < (n 7 : Int) := Classical.byContradiction fun q => by rw [if_neg q] at ej15; omega
          rw [if_pos hd18] at ej15
          obtain rfl : j15 = y.toNat := by omega
          have v16 : y.toNat < n 7 := v16
          refine lv_astore (lv' := [(5, .ref (am 7 y.toNat)), (4, .int (iZ y)), (3, .int (iZ v)), (2, .ref (am 8 x.toNat)), (0, .ref (am 0 0)), (1, .int (iZ x))]) hx hb dX4_freeDoor_30 hl (by decide) rfl (fun ls hl => ?_)
          refine lv_aload hx hb dX4_freeDoor_32 (lv_at hl 0 rfl) ?_
          refine lv_ifnull hx hb dX4_freeDoor_34 ?_
          refine lv_aload hx hb dX4_freeDoor_37 (lv_at hl 0 rfl) ?_
          refine lv_aload_n hx hb dX4_freeDoor_39 rfl (lv_at hl 3 rfl) ?_
          refine zc_i (zrV (As := [.ref (am 8 x.toNat)]) (rest := []) (κ := 7) (i := y.toNat) ⟨hx, hb, hml, hown, hts⟩ (c_X1_canTake l D cA n am S H.size y.toNat x.toNat v16 v2) (cwV 1 hts gX4_freeDoor_X1_canTake rfl rfl rfl (by decide +kernel) ⟨Nat.le_of_ble_eq_true rfl, Nat.le_of_ble_eq_true rfl⟩) hK hI v16 rfl rfl rfl hl.1 rfl (Nat.le_of_ble_eq_true rfl) dX4_freeDoor_40 ⟨Nat.le_of_ble_eq_true rfl, Nat.le_of_ble_eq_true rfl⟩) hI (fun z19 u9 H locs hz20 hp21 hI hfr => ?_)
          clear hfr
          obtain ⟨rfl, rfl⟩ := hp21
          refine z_if_eq (tgt := 49) hx hb dX4_freeDoor_43 (by decide) (by omega) (fun c22 => ?_) (fun c22 => ?_)
          · skip
            have c22 := zB_0 c22
            refine z_iinc (k := 1) (lv' := [(4, .int (iZ (y + 1))), (5, .ref (am 7 y.toNat)), (3, .int (iZ v)), (2, .ref (am 8 x.toNat)), (0, .ref (am 0 0)), (1, .int (iZ x))]) hx hb dX4_freeDoor_49 hl rfl (by decide) rfl (fun ls hl => ?_)
            refine lv_goto (tgt := 11) hx hb dX4_freeDoor_52 (by decide) ?_
            exact ih11 (v := v) (y := (y + 1)) (h1 := by omega) (h2 := by rw [yFree_s (by omega), ← h2, if_neg (by omega)]; (first | rw [zB_t (by assumption), if_pos rfl] | rw [zB_f (by assumption), if_neg (by decide)]) <;> omega) (h3 := by omega) (hk11 := by omega) (hI := hI) (hl := lv_sub hl [0, 2, 3, 4, 5] rfl)
          · skip
            have c22 := zB_1 c22
            refine lv_iload hx hb dX4_freeDoor_46 (lv_at hl 1 rfl) ?_
            refine lv_istore_n (lv' := [(3, .int (iZ y)), (5, .ref (am 7 y.toNat)), (4, .int (iZ y)), (2, .ref (am 8 x.toNat)), (0, .ref (am 0 0)), (1, .int (iZ x))]) hx hb dX4_freeDoor_48 rfl hl (by decide) rfl (fun ls hl => ?_)
            refine z_iinc (k := 2) (lv' := [(4, .int (iZ (y + 1))), (3, .int (iZ y)), (5, .ref (am 7 y.toNat)), (2, .ref (am 8 x.toNat)), (0, .ref (am 0 0)), (1, .int (iZ x))]) hx hb dX4_freeDoor_49 hl rfl (by decide) rfl (fun ls hl => ?_)
            refine lv_goto (tgt := 11) hx hb dX4_freeDoor_52 (by decide) ?_
            exact ih11 (v := y) (y := (y + 1)) (h1 := by omega) (h2 := by rw [yFree_s (by omega), ← h2, if_neg (by omega)]; (first | rw [zB_t (by assumption), if_pos rfl] | rw [zB_f (by assumption), if_neg (by decide)]) <;> omega) (h3 := by omega) (hk11 := by omega) (hI := hI) (hl := lv_sub hl [0, 1, 3, 4, 5] rfl)
set_option maxHeartbeats 4000000 in
set_option maxRecDepth 100000 in
theorem c_X4_usedShare (l : Launch) (hfl : l.stackTraces = false) (D : va_G) (cA : Nat → ClassId) (n : Nat → Nat) (am : ts_Am) (S : ts_St) (sz : Nat)  (hW : cW n S) : vx_Met l yX4_usedShare wsX4_usedShare ({ frames := 6, cells := 1, slots := 6, locals := 90 } : Room) (va_Pc [.ref (am 0 0)] (zPX TX D cA (n, am, S) sz)) (zQf TX D cA (n, am, S) sz (fun z u => ¬ n 7 = 0 ∧ z = FP.fdiv (FP.i2f (iZ (yUsed S (n 7)))) (FP.i2f (iZ (n 7 : Int))) ∧ u = (n, am, S))) (zXX TX D cA (n, am, S) sz (fun E => E = xN_ARE ∧ n 7 = 0)) 1 6 (ts_A (n, am, S) sz) := by
  refine zMx_of (by decide) rfl (Nat.le_of_ble_eq_true rfl) ?_
  intro p e s m below meth c hx hb hr hts hown hlocks hml hex hK hG hsz H locs hI ls hl
  subst hsz
  have hown : s.vm.findClass RX4 = some m.cls := hown
  have hl : lv_has ls 4 [(0, .ref (am 0 0))] := hl
  have f176 := hts (.fieldLink RX4 176 "DockyardSlots$Door" "isUsed" "Z") (by decide +kernel)
  have f69 := hts (.fieldLink RX4 69 "DockyardSlots" "doorCount" "I") (by decide +kernel)
  have LX1 : ∀ w ∈ wsX10, w.before [.ref (am 0 0)].toArray s = true := fun w h => hts w (List.mem_cons_of_mem _ (List.mem_append_left _ (List.mem_append_right _ h)))
  have LX4 : ∀ w ∈ wsX40, w.before [.ref (am 0 0)].toArray s = true := fun w h => hts w (List.mem_cons_of_mem _ (List.mem_append_left _ (List.mem_append_left _ (List.mem_append_right _ h))))
  have hcn := hW.cn
  have hlim := hW.lim
  refine lv_aload_n hx hb dX4_usedShare_0 rfl (lv_at hl 0 rfl) ?_
  refine zg_i (κ := 0) (i := 0) (k := 2) hx hb LX4 hown hK hI hW.1.1 rfl rfl (by decide) rfl f69 (fun _ h9 => h9) dX4_usedShare_1 rfl (fun b1 => ?_)
  refine z_if_gt (tgt := 17) hx hb dX4_usedShare_4 (by decide) (by omega) (fun c2 => ?_) (fun c2 => ?_)
  · skip
    refine z_iconst hx hb dX4_usedShare_17 ?_
    refine lv_istore_n (lv' := [(1, .int (iZ 0)), (0, .ref (am 0 0))]) hx hb dX4_usedShare_18 rfl hl (by decide) rfl (fun ls hl => ?_)
    refine z_iconst hx hb dX4_usedShare_19 ?_
    refine lv_istore_n (lv' := [(2, .int (iZ 0)), (1, .int (iZ 0)), (0, .ref (am 0 0))]) hx hb dX4_usedShare_20 rfl hl (by decide) rfl (fun ls hl => ?_)
    obtain ⟨x, e_x⟩ : ∃ z : Int, z = 0 := ⟨_, rfl⟩
    obtain ⟨y, e_y⟩ : ∃ z : Int, z = 0 := ⟨_, rfl⟩
    replace hl : lv_has ls 4 [(2, .int (iZ y)), (1, .int (iZ x)), (0, .ref (am 0 0))] := by rw [e_x, e_y]; exact hl
    have h1 : 0 ≤ y ∧ y ≤ (n 7 : Int) := by omega
    have h2 : x = yUsed S y.toNat := by rw [e_x, e_y]; rfl
    have h3 : 0 ≤ x ∧ x ≤ y := by omega
    obtain ⟨k21, hk21⟩ : ∃ k : Nat, (n 7 : Int) - y < (k : Int) := ⟨((n 7 : Int) - y).toNat + 1, by omega⟩
    clear e_x e_y
    induction k21 generalizing x y H locs ls with
    | zero => omega
    | succ k21 ih21 =>
      refine lv_iload_n hx hb dX4_usedShare_21 rfl (lv_at hl 0 rfl) ?_
      refine lv_aload_n hx hb dX4_usedShare_22 rfl (lv_at hl 2 rfl) ?_
      refine zg_i (κ := 0) (i := 0) (k := 2) hx hb LX4 hown hK hI hW.1.1 rfl rfl (by decide) rfl f69 (fun _ h9 => h9) dX4_usedShare_23 rfl (fun b3 => ?_)
      refine z_icmp_ge (tgt := 55) hx hb dX4_usedShare_26 (by decide) (by omega) (by omega) (fun c4 => ?_) (fun c4 => ?_)
      · skip
        refine lv_iload_n hx hb dX4_usedShare_55 rfl (lv_at hl 1 rfl) ?_
        refine lv_i2f hx hb dX4_usedShare_56 ?_
        refine lv_aload_n hx hb dX4_usedShare_57 rfl (lv_at hl 2 rfl) ?_
        refine zg_i (κ := 0) (i := 0) (k := 2) hx hb LX4 hown hK hI hW.1.1 rfl rfl (by decide) rfl f69 (fun _ h9 => h9) dX4_usedShare_58 rfl (fun b5 => ?_)
        refine lv_i2f hx hb dX4_usedShare_61 ?_
        refine lv_fdiv hx hb dX4_usedShare_62 (nn_f _ (iZ_ne0 (by omega) (by omega))) ?_
        exact vx_ret (ze_f (u' := (n, am, S)) (z := (FP.fdiv (FP.i2f (iZ x)) (FP.i2f (iZ (S 0 0 2))))) hx hb hr hI ⟨by omega, by rw [h2, show y.toNat = n 7 by omega, show S 0 0 2 = (n 7 : Int) by omega], rfl⟩ (Nat.le_of_ble_eq_true rfl) (Nat.le_of_ble_eq_true rfl) dX4_usedShare_63 hlocks)
      · skip
        refine lv_aload_n hx hb dX4_usedShare_29 rfl (lv_at hl 2 rfl) ?_
        refine lv_iload_n hx hb dX4_usedShare_30 rfl (lv_at hl 0 rfl) ?_
        refine zc_q (zrV (As := [.int (iZ y)]) (rest := []) (κ := 0) (i := 0) ⟨hx, hb, hml, hown, hts⟩ (c_X4_doorAt l D cA n am S H.size y hW (by omega)) (cwV 1 hts gX4_usedShare_X4_doorAt rfl rfl rfl (by decide +kernel) ⟨Nat.le_of_ble_eq_true rfl, Nat.le_of_ble_eq_true rfl⟩) hK hI hW.1.1 rfl rfl rfl hl.1 rfl (Nat.le_of_ble_eq_true rfl) dX4_usedShare_31 ⟨Nat.le_of_ble_eq_true rfl, Nat.le_of_ble_eq_true rfl⟩) hI (fun u9 H locs hp8 hI hfr => ?_) (fun j9 u9 H locs v10 hp8 hI hfr => ?_)
        · clear hfr
          obtain ⟨ez6, rfl⟩ := hp8
          have hd11 : ¬ (0 ≤ y ∧ y < (n 7 : Int)) := fun q => by rw [if_pos q] at ez6; omega
          omega
        · clear hfr
          obtain ⟨ej9, rfl⟩ := hp8
          have hd12 : 0 ≤ y ∧ y < (n 7 : Int) := Classical.byContradiction fun q => by rw [if_neg q] at ej9; omega
          rw [if_pos hd12] at ej9
          obtain rfl : j9 = y.toNat := by omega
          have v10 : y.toNat < n 7 := v10
          refine lv_astore_n (lv' := [(3, .ref (am 7 y.toNat)), (2, .int (iZ y)), (1, .int (iZ x)), (0, .ref (am 0 0))]) hx hb dX4_usedShare_34 rfl hl (by decide) rfl (fun ls hl => ?_)
          refine lv_aload_n hx hb dX4_usedShare_35 rfl (lv_at hl 0 rfl) ?_
          refine lv_ifnull hx hb dX4_usedShare_36 ?_
          refine lv_aload_n hx hb dX4_usedShare_39 rfl (lv_at hl 0 rfl) ?_
          refine zg_i (κ := 7) (i := y.toNat) (k := 1) hx hb LX1 hown hK hI v10 rfl rfl (by decide) rfl f176 (fun _ h9 => h9) dX4_usedShare_40 rfl (fun b13 => ?_)
          refine z_if_eq (tgt := 49) hx hb dX4_usedShare_43 (by decide) (by omega) (fun c14 => ?_) (fun c14 => ?_)
          · skip
            refine z_iinc (k := 1) (lv' := [(2, .int (iZ (y + 1))), (3, .ref (am 7 y.toNat)), (1, .int (iZ x)), (0, .ref (am 0 0))]) hx hb dX4_usedShare_49 hl rfl (by decide) rfl (fun ls hl => ?_)
            refine lv_goto (tgt := 21) hx hb dX4_usedShare_52 (by decide) ?_
            exact ih21 (x := x) (y := (y + 1)) (h1 := by omega) (h2 := by rw [yUsed_s (by omega), ← h2]; (first | rw [if_pos (by omega)] | rw [if_neg (by omega)]) <;> omega) (h3 := by omega) (hk21 := by omega) (hI := hI) (hl := lv_sub hl [0, 2, 3] rfl)
          · skip
            refine z_iinc (k := 2) (lv' := [(1, .int (iZ (x + 1))), (3, .ref (am 7 y.toNat)), (2, .int (iZ y)), (0, .ref (am 0 0))]) hx hb dX4_usedShare_46 hl rfl (by decide) rfl (fun ls hl => ?_)
            refine z_iinc (k := 2) (lv' := [(2, .int (iZ (y + 1))), (1, .int (iZ (x + 1))), (3, .ref (am 7 y.toNat)), (0, .ref (am 0 0))]) hx hb dX4_usedShare_49 hl rfl (by decide) rfl (fun ls hl => ?_)
            refine lv_goto (tgt := 21) hx hb dX4_usedShare_52 (by decide) ?_
            exact ih21 (x := (x + 1)) (y := (y + 1)) (h1 := by omega) (h2 := by rw [yUsed_s (by omega), ← h2]; (first | rw [if_pos (by omega)] | rw [if_neg (by omega)]) <;> omega) (h3 := by omega) (hk21 := by omega) (hI := hI) (hl := lv_sub hl [0, 1, 3] rfl)
  · skip
    exact zx_throw (text := "there are no doors") hx hb hfl hown hG hI xC_ARE xF_ARE (hts _ (by decide +kernel)) (hts _ (by decide +kernel)) (fun w h => hts w (List.mem_cons_of_mem _ (List.mem_append_right _ h))) xA_ARE xO_ARE (by decide +kernel) (by rw [hml]; exact hl.1) dX4_usedShare_7 dX4_usedShare_10 dX4_usedShare_11 dX4_usedShare_13 dX4_usedShare_16 hex (Nat.le_of_ble_eq_true rfl) (Nat.le_of_ble_eq_true rfl) (Nat.le_of_ble_eq_true rfl) (Nat.le_of_ble_eq_true rfl) hlocks ⟨rfl, by omega⟩ (Nat.le_of_ble_eq_true rfl) (Nat.le_of_ble_eq_true rfl)
set_option maxHeartbeats 4000000 in
set_option maxRecDepth 100000 in
theorem c_X4_meanWaiting (l : Launch) (hfl : l.stackTraces = false) (D : va_G) (cA : Nat → ClassId) (n : Nat → Nat) (am : ts_Am) (S : ts_St) (sz : Nat)  (hW : cW n S) (hcr : cR n S) : vx_Met l yX4_meanWaiting wsX4_meanWaiting ({ frames := 6, cells := 1, slots := 6, locals := 90 } : Room) (va_Pc [.ref (am 0 0)] (zPX TX D cA (n, am, S) sz)) (zQd TX D cA (n, am, S) sz (fun z u => ¬ yMN S (n 8) = 0 ∧ z = FP.ddiv (FP.i2d (iZ (yMS S (n 8)))) (FP.i2d (iZ (yMN S (n 8)))) ∧ u = (n, am, S))) (zXX TX D cA (n, am, S) sz (fun E => E = xN_ARE ∧ yMN S (n 8) = 0)) 1 6 (ts_A (n, am, S) sz) := by
  refine zMx_of (by decide) rfl (Nat.le_of_ble_eq_true rfl) ?_
  intro p e s m below meth c hx hb hr hts hown hlocks hml hex hK hG hsz H locs hI ls hl
  subst hsz
  have hown : s.vm.findClass RX4 = some m.cls := hown
  have hl : lv_has ls 5 [(0, .ref (am 0 0))] := hl
  have f24 := hts (.fieldLink RX4 24 "DockyardSlots" "appointments" "[LDockyardSlots$Appointment;") (by decide +kernel)
  have f86 := hts (.fieldLink RX4 86 "DockyardSlots" "appointmentCount" "I") (by decide +kernel)
  have LX4 : ∀ w ∈ wsX40, w.before [.ref (am 0 0)].toArray s = true := fun w h => hts w (List.mem_cons_of_mem _ (List.mem_append_left _ (List.mem_append_left _ (List.mem_append_right _ h))))
  have hcn := hW.cn
  have hlim := hW.lim
  refine z_iconst hx hb dX4_meanWaiting_0 ?_
  refine lv_istore_n (lv' := [(1, .int (iZ 0)), (0, .ref (am 0 0))]) hx hb dX4_meanWaiting_1 rfl hl (by decide) rfl (fun ls hl => ?_)
  refine z_iconst hx hb dX4_meanWaiting_2 ?_
  refine lv_istore_n (lv' := [(2, .int (iZ 0)), (1, .int (iZ 0)), (0, .ref (am 0 0))]) hx hb dX4_meanWaiting_3 rfl hl (by decide) rfl (fun ls hl => ?_)
  refine z_iconst hx hb dX4_meanWaiting_4 ?_
  refine lv_istore_n (lv' := [(3, .int (iZ 0)), (2, .int (iZ 0)), (1, .int (iZ 0)), (0, .ref (am 0 0))]) hx hb dX4_meanWaiting_5 rfl hl (by decide) rfl (fun ls hl => ?_)
  obtain ⟨x, e_x⟩ : ∃ z : Int, z = 0 := ⟨_, rfl⟩
  obtain ⟨w, e_w⟩ : ∃ z : Int, z = 0 := ⟨_, rfl⟩
  obtain ⟨y, e_y⟩ : ∃ z : Int, z = 0 := ⟨_, rfl⟩
  replace hl : lv_has ls 5 [(3, .int (iZ y)), (2, .int (iZ w)), (1, .int (iZ x)), (0, .ref (am 0 0))] := by rw [e_x, e_w, e_y]; exact hl
  have h1 : 0 ≤ y ∧ y ≤ (n 8 : Int) := by omega
  have h2 : x = yMS S y.toNat := by rw [e_x, e_y]; rfl
  have h3 : w = yMN S y.toNat := by rw [e_w, e_y]; rfl
  have h4 : 0 ≤ x ∧ x ≤ 100000 * y := by omega
  have h5 : 0 ≤ w ∧ w ≤ y := by omega
  obtain ⟨k6, hk6⟩ : ∃ k : Nat, (n 8 : Int) - y < (k : Int) := ⟨((n 8 : Int) - y).toNat + 1, by omega⟩
  clear e_x e_w e_y
  induction k6 generalizing x w y H locs ls with
  | zero => omega
  | succ k6 ih6 =>
    refine lv_iload_n hx hb dX4_meanWaiting_6 rfl (lv_at hl 0 rfl) ?_
    refine lv_aload_n hx hb dX4_meanWaiting_7 rfl (lv_at hl 3 rfl) ?_
    refine zg_i (κ := 0) (i := 0) (k := 4) hx hb LX4 hown hK hI hW.1.1 rfl rfl (by decide) rfl f86 (fun _ h9 => h9) dX4_meanWaiting_8 rfl (fun b1 => ?_)
    refine z_icmp_ge (tgt := 62) hx hb dX4_meanWaiting_11 (by decide) (by omega) (by omega) (fun c2 => ?_) (fun c2 => ?_)
    · skip
      have hyb : n 8 = y.toNat := by omega
      refine lv_iload_n hx hb dX4_meanWaiting_62 rfl (lv_at hl 1 rfl) ?_
      refine z_if_gt (tgt := 76) hx hb dX4_meanWaiting_63 (by decide) (by omega) (fun c3 => ?_) (fun c3 => ?_)
      · skip
        refine lv_iload_n hx hb dX4_meanWaiting_76 rfl (lv_at hl 2 rfl) ?_
        refine lv_i2d hx hb dX4_meanWaiting_77 ?_
        refine lv_iload_n hx hb dX4_meanWaiting_78 rfl (lv_at hl 1 rfl) ?_
        refine lv_i2d hx hb dX4_meanWaiting_79 ?_
        refine lv_ddiv hx hb dX4_meanWaiting_80 (nn_d _ (iZ_ne0 (by omega) (by omega))) ?_
        exact vx_ret (ze_d (u' := (n, am, S)) (z := (FP.ddiv (FP.i2d (iZ x)) (FP.i2d (iZ w)))) hx hb hr hI ⟨by rw [hyb, ← h3]; omega, by rw [hyb, ← h2, ← h3], rfl⟩ (Nat.le_of_ble_eq_true rfl) (Nat.le_of_ble_eq_true rfl) dX4_meanWaiting_81 hlocks)
      · skip
        exact zx_throw (text := "no trailer has arrived") hx hb hfl hown hG hI xC_ARE xF_ARE (hts _ (by decide +kernel)) (hts _ (by decide +kernel)) (fun w h => hts w (List.mem_cons_of_mem _ (List.mem_append_right _ h))) xA_ARE xO_ARE (by decide +kernel) (by rw [hml]; exact hl.1) dX4_meanWaiting_66 dX4_meanWaiting_69 dX4_meanWaiting_70 dX4_meanWaiting_72 dX4_meanWaiting_75 hex (Nat.le_of_ble_eq_true rfl) (Nat.le_of_ble_eq_true rfl) (Nat.le_of_ble_eq_true rfl) (Nat.le_of_ble_eq_true rfl) hlocks ⟨rfl, by rw [hyb, ← h3]; omega⟩ (Nat.le_of_ble_eq_true rfl) (Nat.le_of_ble_eq_true rfl)
    · skip
      refine lv_iload_n hx hb dX4_meanWaiting_14 rfl (lv_at hl 0 rfl) ?_
      refine lv_aload_n hx hb dX4_meanWaiting_15 rfl (lv_at hl 3 rfl) ?_
      refine zg_r (κ := 0) (i := 0) (k := 3) (t := 4) (j := 0) hx hb LX4 hown hK hI hW.1.1 rfl rfl (by decide) rfl f24 (fun _ h9 => h9) dX4_meanWaiting_16 hW.2.1.2.2.1 (fun v4 => ?_)
      refine zal hx hb hK hI v4 rfl dX4_meanWaiting_19 ?_
      refine z_icmp_ge (tgt := 62) hx hb dX4_meanWaiting_20 (by decide) (by omega) (by omega) (fun c5 => ?_) (fun c5 => ?_)
      · skip
        have hyb : n 8 = y.toNat := by omega
        refine lv_iload_n hx hb dX4_meanWaiting_62 rfl (lv_at hl 1 rfl) ?_
        refine z_if_gt (tgt := 76) hx hb dX4_meanWaiting_63 (by decide) (by omega) (fun c6 => ?_) (fun c6 => ?_)
        · skip
          refine lv_iload_n hx hb dX4_meanWaiting_76 rfl (lv_at hl 2 rfl) ?_
          refine lv_i2d hx hb dX4_meanWaiting_77 ?_
          refine lv_iload_n hx hb dX4_meanWaiting_78 rfl (lv_at hl 1 rfl) ?_
          refine lv_i2d hx hb dX4_meanWaiting_79 ?_
          refine lv_ddiv hx hb dX4_meanWaiting_80 (nn_d _ (iZ_ne0 (by omega) (by omega))) ?_
          exact vx_ret (ze_d (u' := (n, am, S)) (z := (FP.ddiv (FP.i2d (iZ x)) (FP.i2d (iZ w)))) hx hb hr hI ⟨by rw [hyb, ← h3]; omega, by rw [hyb, ← h2, ← h3], rfl⟩ (Nat.le_of_ble_eq_true rfl) (Nat.le_of_ble_eq_true rfl) dX4_meanWaiting_81 hlocks)
        · skip
          exact zx_throw (text := "no trailer has arrived") hx hb hfl hown hG hI xC_ARE xF_ARE (hts _ (by decide +kernel)) (hts _ (by decide +kernel)) (fun w h => hts w (List.mem_cons_of_mem _ (List.mem_append_right _ h))) xA_ARE xO_ARE (by decide +kernel) (by rw [hml]; exact hl.1) dX4_meanWaiting_66 dX4_meanWaiting_69 dX4_meanWaiting_70 dX4_meanWaiting_72 dX4_meanWaiting_75 hex (Nat.le_of_ble_eq_true rfl) (Nat.le_of_ble_eq_true rfl) (Nat.le_of_ble_eq_true rfl) (Nat.le_of_ble_eq_true rfl) hlocks ⟨rfl, by rw [hyb, ← h3]; omega⟩ (Nat.le_of_ble_eq_true rfl) (Nat.le_of_ble_eq_true rfl)
      · skip
        refine lv_aload_n hx hb dX4_meanWaiting_23 rfl (lv_at hl 3 rfl) ?_
        refine zg_r (κ := 0) (i := 0) (k := 3) (t := 4) (j := 0) hx hb LX4 hown hK hI hW.1.1 rfl rfl (by decide) rfl f24 (fun _ h9 => h9) dX4_meanWaiting_24 hW.2.1.2.2.1 (fun v7 => ?_)
        refine lv_iload_n hx hb dX4_meanWaiting_27 rfl (lv_at hl 0 rfl) ?_
        refine za_r (κ := 4) (i := 0) (t := 8) (k := y.toNat) hx hb hK hI v7 rfl (by omega) (by omega) (by omega) dX4_meanWaiting_28 (hW.aa (by omega)) (fun v8 => ?_)
        refine lv_astore (lv' := [(4, .ref (am 8 y.toNat)), (3, .int (iZ y)), (2, .int (iZ w)), (1, .int (iZ x)), (0, .ref (am 0 0))]) hx hb dX4_meanWaiting_29 hl (by decide) rfl (fun ls hl => ?_)
        refine lv_aload hx hb dX4_meanWaiting_31 (lv_at hl 0 rfl) ?_
        refine lv_ifnull hx hb dX4_meanWaiting_33 ?_
        refine lv_aload hx hb dX4_meanWaiting_36 (lv_at hl 0 rfl) ?_
        refine zc_i (zrV (As := []) (rest := []) (κ := 8) (i := y.toNat) ⟨hx, hb, hml, hown, hts⟩ (c_X0_hasArrived l D cA n am S H.size y.toNat v8) (cwV 0 hts gX4_meanWaiting_X0_hasArrived rfl rfl rfl (by decide +kernel) ⟨Nat.le_of_ble_eq_true rfl, Nat.le_of_ble_eq_true rfl⟩) hK hI v8 rfl rfl rfl hl.1 rfl (Nat.le_of_ble_eq_true rfl) dX4_meanWaiting_38 ⟨Nat.le_of_ble_eq_true rfl, Nat.le_of_ble_eq_true rfl⟩) hI (fun z9 u9 H locs hz10 hp11 hI hfr => ?_)
        clear hfr
        obtain ⟨rfl, rfl⟩ := hp11
        refine z_if_eq (tgt := 56) hx hb dX4_meanWaiting_41 (by decide) (by omega) (fun c12 => ?_) (fun c12 => ?_)
        · skip
          have c12 := zB_0 c12
          refine z_iinc (k := 1) (lv' := [(3, .int (iZ (y + 1))), (4, .ref (am 8 y.toNat)), (2, .int (iZ w)), (1, .int (iZ x)), (0, .ref (am 0 0))]) hx hb dX4_meanWaiting_56 hl rfl (by decide) rfl (fun ls hl => ?_)
          refine lv_goto (tgt := 6) hx hb dX4_meanWaiting_59 (by decide) ?_
          exact ih6 (x := x) (w := w) (y := (y + 1)) (h1 := by omega) (h2 := by rw [yMS_s (by omega), ← h2]; (first | rw [if_pos (by assumption)] | rw [if_neg (by assumption)])) (h3 := by rw [yMN_s (by omega), ← h3]; (first | rw [if_pos (by assumption)] | rw [if_neg (by assumption)])) (h4 := by omega) (h5 := by omega) (hk6 := by omega) (hI := hI) (hl := lv_sub hl [0, 2, 3, 4] rfl)
        · skip
          have c12 := zB_1 c12
          have hwt := yWait_R hcr (j := y.toNat) (by omega)
          refine lv_iload_n hx hb dX4_meanWaiting_44 rfl (lv_at hl 3 rfl) ?_
          refine lv_aload_n hx hb dX4_meanWaiting_45 rfl (lv_at hl 4 rfl) ?_
          refine lv_aload hx hb dX4_meanWaiting_46 (lv_at hl 0 rfl) ?_
          refine zc_i (zrV (As := [.ref (am 8 y.toNat)]) (rest := [.int (iZ x)]) (κ := 0) (i := 0) ⟨hx, hb, hml, hown, hts⟩ (c_X4_waitingHours l D cA n am S H.size y.toNat hW v8) (cwV 1 hts gX4_meanWaiting_X4_waitingHours rfl rfl rfl (by decide +kernel) ⟨Nat.le_of_ble_eq_true rfl, Nat.le_of_ble_eq_true rfl⟩) hK hI hW.1.1 rfl rfl rfl hl.1 rfl (Nat.le_of_ble_eq_true rfl) dX4_meanWaiting_48 ⟨Nat.le_of_ble_eq_true rfl, Nat.le_of_ble_eq_true rfl⟩) hI (fun z13 u9 H locs hz14 hp15 hI hfr => ?_)
          clear hfr
          obtain ⟨rfl, rfl⟩ := hp15
          refine z_iadd hx hb dX4_meanWaiting_51 ?_
          refine lv_istore_n (lv' := [(1, .int (iZ (x + yWait S y.toNat))), (4, .ref (am 8 y.toNat)), (3, .int (iZ y)), (2, .int (iZ w)), (0, .ref (am 0 0))]) hx hb dX4_meanWaiting_52 rfl hl (by decide) rfl (fun ls hl => ?_)
          refine z_iinc (k := 3) (lv' := [(2, .int (iZ (w + 1))), (1, .int (iZ (x + yWait S y.toNat))), (4, .ref (am 8 y.toNat)), (3, .int (iZ y)), (0, .ref (am 0 0))]) hx hb dX4_meanWaiting_53 hl rfl (by decide) rfl (fun ls hl => ?_)
          refine z_iinc (k := 3) (lv' := [(3, .int (iZ (y + 1))), (2, .int (iZ (w + 1))), (1, .int (iZ (x + yWait S y.toNat))), (4, .ref (am 8 y.toNat)), (0, .ref (am 0 0))]) hx hb dX4_meanWaiting_56 hl rfl (by decide) rfl (fun ls hl => ?_)
          refine lv_goto (tgt := 6) hx hb dX4_meanWaiting_59 (by decide) ?_
          exact ih6 (x := (x + yWait S y.toNat)) (w := (w + 1)) (y := (y + 1)) (h1 := by omega) (h2 := by rw [yMS_s (by omega), ← h2]; (first | rw [if_pos (by assumption)] | rw [if_neg (by assumption)])) (h3 := by rw [yMN_s (by omega), ← h3]; (first | rw [if_pos (by assumption)] | rw [if_neg (by assumption)])) (h4 := by omega) (h5 := by omega) (hk6 := by omega) (hI := hI) (hl := lv_sub hl [0, 1, 2, 4] rfl)
set_option maxHeartbeats 4000000 in
set_option maxRecDepth 100000 in
theorem c_X4_pass (l : Launch) (hfl : l.stackTraces = false) (D : va_G) (cA : Nat → ClassId) (n : Nat → Nat) (am : ts_Am) (S : ts_St) (sz : Nat) (a : Int) (hW : cW n S) (ha0 : iR a) (hcr : cR n S) (htm : S 0 0 10 + 100 ≤ 100000) : vx_Met l yX4_pass wsX4_pass ({ frames := 6, cells := 1, slots := 6, locals := 90 } : Room) (va_Pc [.ref (am 0 0), .int (iZ a)] (zPX TX D cA (n, am, S) sz)) (zQi TX D cA (n, am, S) sz (fun z u => (1 ≤ a ∧ a ≤ 99) ∧ z = yPn S (S 0 0 10 + a) (n 8) ∧ u = (n, am, gY S (S 0 0 10 + a) (n 8)))) (zXX TX D cA (n, am, S) sz (fun E => E = xN_IAE ∧ ¬ (1 ≤ a ∧ a ≤ 99))) 1 6 (ts_A (n, am, S) sz) := by
  refine zMx_of (by decide) rfl (Nat.le_of_ble_eq_true rfl) ?_
  intro p e s m below meth c hx hb hr hts hown hlocks hml hex hK hG hsz H locs hI ls hl
  subst hsz
  have hown : s.vm.findClass RX4 = some m.cls := hown
  have hl : lv_has ls 5 [(0, .ref (am 0 0)), (1, .int (iZ a))] := hl
  have f102 := hts (.fieldLink RX4 102 "DockyardSlots$Appointment" "state" "C") (by decide +kernel)
  have f139 := hts (.fieldLink RX4 139 "DockyardSlots$Appointment" "hour" "I") (by decide +kernel)
  have f24 := hts (.fieldLink RX4 24 "DockyardSlots" "appointments" "[LDockyardSlots$Appointment;") (by decide +kernel)
  have f81 := hts (.fieldLink RX4 81 "DockyardSlots" "now" "I") (by decide +kernel)
  have f86 := hts (.fieldLink RX4 86 "DockyardSlots" "appointmentCount" "I") (by decide +kernel)
  have LX0 : ∀ w ∈ wsX00, w.before [.ref (am 0 0), .int (iZ a)].toArray s = true := fun w h => hts w (List.mem_cons_of_mem _ (List.mem_append_left _ (List.mem_append_right _ h)))
  have LX4 : ∀ w ∈ wsX40, w.before [.ref (am 0 0), .int (iZ a)].toArray s = true := fun w h => hts w (List.mem_cons_of_mem _ (List.mem_append_left _ (List.mem_append_left _ (List.mem_append_right _ h))))
  have hcn := hW.cn
  have hlim := hW.lim
  have hcr1 := hcr.1
  refine lv_iload_n hx hb dX4_pass_0 rfl (lv_at hl 1 rfl) ?_
  refine z_iconst hx hb dX4_pass_1 ?_
  refine z_bipush hx hb dX4_pass_2 (by decide) ?_
  refine zc_i (zrS (As := [.int (iZ a), .int (iZ 1), .int (iZ 99)]) (rest := []) ⟨hx, hb, hml, hown, hts⟩ (c_X4_isOutside l D cA n am S H.size a 1 99 (by omega) (by omega) (by omega)) (va_cwS 3 hts gX4_pass_X4_isOutside rfl rfl rfl (by decide +kernel) ⟨Nat.le_of_ble_eq_true rfl, Nat.le_of_ble_eq_true rfl⟩) hK hI rfl hl.1 rfl (Nat.le_of_ble_eq_true rfl) dX4_pass_4 ⟨Nat.le_of_ble_eq_true rfl, Nat.le_of_ble_eq_true rfl⟩) hI (fun z1 u9 H locs hz2 hp3 hI hfr => ?_)
  clear hfr
  obtain ⟨rfl, rfl⟩ := hp3
  refine z_if_eq (tgt := 20) hx hb dX4_pass_7 (by decide) (by omega) (fun c4 => ?_) (fun c4 => ?_)
  · skip
    have c4 := zB_0 c4
    unfold yOut at c4
    refine lv_aload_n hx hb dX4_pass_20 rfl (lv_at hl 0 rfl) ?_
    refine lv_dup hx hb dX4_pass_21 rfl ?_
    refine zg_i (κ := 0) (i := 0) (k := 10) hx hb LX4 hown hK hI hW.1.1 rfl rfl (by decide) rfl f81 (fun _ h9 => h9) dX4_pass_22 rfl (fun b5 => ?_)
    refine lv_iload_n hx hb dX4_pass_25 rfl (lv_at hl 1 rfl) ?_
    refine z_iadd hx hb dX4_pass_26 ?_
    refine zp_i (κ := 0) (i := 0) (k := 10) hx hb LX4 tyX4 tyX4_ok nmX4 hown hK hI hW.1.1 rfl rfl (by decide) rfl f81 (fun _ h9 => h9) rfl rfl rfl (by omega) dX4_pass_27 (fun H locs hI => ?_)
    obtain ⟨S6, eS6⟩ : ∃ z, z = up3 S 0 0 10 (S 0 0 10 + a) := ⟨_, rfl⟩
    rw [← eS6] at hI
    have hW : cW n S6 := by rw [eS6]; exact hW.put rfl
    refine z_iconst hx hb dX4_pass_30 ?_
    refine lv_istore_n (lv' := [(2, .int (iZ 0)), (0, .ref (am 0 0)), (1, .int (iZ a))]) hx hb dX4_pass_31 rfl hl (by decide) rfl (fun ls hl => ?_)
    refine z_iconst hx hb dX4_pass_32 ?_
    refine lv_istore_n (lv' := [(3, .int (iZ 0)), (2, .int (iZ 0)), (0, .ref (am 0 0)), (1, .int (iZ a))]) hx hb dX4_pass_33 rfl hl (by decide) rfl (fun ls hl => ?_)
    obtain ⟨x, e_x⟩ : ∃ z : Int, z = 0 := ⟨_, rfl⟩
    obtain ⟨y, e_y⟩ : ∃ z : Int, z = 0 := ⟨_, rfl⟩
    replace hl : lv_has ls 5 [(3, .int (iZ y)), (2, .int (iZ x)), (0, .ref (am 0 0)), (1, .int (iZ a))] := by rw [e_x, e_y]; exact hl
    obtain ⟨S3, e_S3⟩ : ∃ z, z = S6 := ⟨_, rfl⟩
    rw [← e_S3] at hI
    replace hW : cW n S3 := by rw [e_S3]; exact hW
    have h1 : 0 ≤ y ∧ y ≤ (n 8 : Int) := by omega
    have h2 : S3 = gY S (S 0 0 10 + a) y.toNat := by rw [e_S3, e_y, eS6]; exact gY_0 S _
    have h3 : x = yPn S (S 0 0 10 + a) y.toNat := by rw [e_x, e_y]; rfl
    have h4 : 0 ≤ x ∧ x ≤ y := by omega
    obtain ⟨k34, hk34⟩ : ∃ k : Nat, (n 8 : Int) - y < (k : Int) := ⟨((n 8 : Int) - y).toNat + 1, by omega⟩
    clear e_x e_y e_S3
    induction k34 generalizing x y S3 H locs ls with
    | zero => omega
    | succ k34 ih34 =>
      have h10 : S3 0 0 10 = S 0 0 10 + a := by rw [h2]; exact gY_10 _ _ _
      have hcn3 := hW.cn
      refine lv_iload_n hx hb dX4_pass_34 rfl (lv_at hl 0 rfl) ?_
      refine lv_aload_n hx hb dX4_pass_35 rfl (lv_at hl 2 rfl) ?_
      refine zg_i (κ := 0) (i := 0) (k := 4) hx hb LX4 hown hK hI hW.1.1 rfl rfl (by decide) rfl f86 (fun _ h9 => h9) dX4_pass_36 rfl (fun b7 => ?_)
      refine z_icmp_ge (tgt := 105) hx hb dX4_pass_39 (by decide) (by omega) (by omega) (fun c8 => ?_) (fun c8 => ?_)
      · skip
        refine lv_iload_n hx hb dX4_pass_105 rfl (lv_at hl 1 rfl) ?_
        exact vx_ret (ze_i (u' := (n, am, S3)) (z := x) hx hb hr rfl hI (by omega) ⟨by omega, by rw [h3, show n 8 = y.toNat by omega], by rw [h2, show n 8 = y.toNat by omega]⟩ (Nat.le_of_ble_eq_true rfl) (Nat.le_of_ble_eq_true rfl) dX4_pass_106 hlocks)
      · skip
        refine lv_iload_n hx hb dX4_pass_42 rfl (lv_at hl 0 rfl) ?_
        refine lv_aload_n hx hb dX4_pass_43 rfl (lv_at hl 2 rfl) ?_
        refine zg_r (κ := 0) (i := 0) (k := 3) (t := 4) (j := 0) hx hb LX4 hown hK hI hW.1.1 rfl rfl (by decide) rfl f24 (fun _ h9 => h9) dX4_pass_44 hW.2.1.2.2.1 (fun v9 => ?_)
        refine zal hx hb hK hI v9 rfl dX4_pass_47 ?_
        refine z_icmp_ge (tgt := 105) hx hb dX4_pass_48 (by decide) (by omega) (by omega) (fun c10 => ?_) (fun c10 => ?_)
        · skip
          refine lv_iload_n hx hb dX4_pass_105 rfl (lv_at hl 1 rfl) ?_
          exact vx_ret (ze_i (u' := (n, am, S3)) (z := x) hx hb hr rfl hI (by omega) ⟨by omega, by rw [h3, show n 8 = y.toNat by omega], by rw [h2, show n 8 = y.toNat by omega]⟩ (Nat.le_of_ble_eq_true rfl) (Nat.le_of_ble_eq_true rfl) dX4_pass_106 hlocks)
        · skip
          refine lv_aload_n hx hb dX4_pass_51 rfl (lv_at hl 2 rfl) ?_
          refine zg_r (κ := 0) (i := 0) (k := 3) (t := 4) (j := 0) hx hb LX4 hown hK hI hW.1.1 rfl rfl (by decide) rfl f24 (fun _ h9 => h9) dX4_pass_52 hW.2.1.2.2.1 (fun v11 => ?_)
          refine lv_iload_n hx hb dX4_pass_55 rfl (lv_at hl 0 rfl) ?_
          refine za_r (κ := 4) (i := 0) (t := 8) (k := y.toNat) hx hb hK hI v11 rfl (by omega) (by omega) (by omega) dX4_pass_56 (hW.aa (by omega)) (fun v12 => ?_)
          refine lv_astore (lv' := [(4, .ref (am 8 y.toNat)), (3, .int (iZ y)), (2, .int (iZ x)), (0, .ref (am 0 0)), (1, .int (iZ a))]) hx hb dX4_pass_57 hl (by decide) rfl (fun ls hl => ?_)
          refine lv_aload hx hb dX4_pass_59 (lv_at hl 0 rfl) ?_
          refine lv_ifnull hx hb dX4_pass_61 ?_
          have g4 : S3 8 y.toNat 4 = S 8 y.toNat 4 := by rw [h2]; exact gY_4 _ _ _
          have g1 : S3 8 y.toNat 1 = S 8 y.toNat 1 := by rw [h2]; exact gY_1 _ _ _ _
          have hc1 := (hcr.2 y.toNat (by omega)).1
          refine lv_aload hx hb dX4_pass_64 (lv_at hl 0 rfl) ?_
          refine zg_i (κ := 8) (i := y.toNat) (k := 4) hx hb LX0 hown hK hI v12 rfl rfl (by decide) rfl f102 (fun _ h9 => h9) dX4_pass_66 rfl (fun b13 => ?_)
          refine z_bipush hx hb dX4_pass_69 (by decide) ?_
          refine z_icmp_ne (tgt := 99) hx hb dX4_pass_71 (by decide) (by omega) (by omega) (fun c14 => ?_) (fun c14 => ?_)
          · skip
            refine z_iinc (k := 1) (lv' := [(3, .int (iZ (y + 1))), (4, .ref (am 8 y.toNat)), (2, .int (iZ x)), (0, .ref (am 0 0)), (1, .int (iZ a))]) hx hb dX4_pass_99 hl rfl (by decide) rfl (fun ls hl => ?_)
            refine lv_goto (tgt := 34) hx hb dX4_pass_102 (by decide) ?_
            exact ih34 (x := x) (y := (y + 1)) (S3 := S3) (h1 := by omega) (h2 := by rw [h2, show (y + 1).toNat = y.toNat + 1 by omega]; refine gY_same ?_; exact if_neg (by omega)) (h3 := by rw [yPn_s (by omega), ← h3]; (first | rw [if_pos (by omega)] | rw [if_neg (by omega)]) <;> omega) (h4 := by omega) (hW := hW) (hk34 := by omega) (hI := hI) (hl := lv_sub hl [0, 2, 3, 4] rfl)
          · skip
            refine lv_aload_n hx hb dX4_pass_74 rfl (lv_at hl 3 rfl) ?_
            refine zg_i (κ := 0) (i := 0) (k := 10) hx hb LX4 hown hK hI hW.1.1 rfl rfl (by decide) rfl f81 (fun _ h9 => h9) dX4_pass_75 rfl (fun b15 => ?_)
            refine lv_aload hx hb dX4_pass_78 (lv_at hl 0 rfl) ?_
            refine zg_i (κ := 8) (i := y.toNat) (k := 1) hx hb LX0 hown hK hI v12 rfl rfl (by decide) rfl f139 (fun _ h9 => h9) dX4_pass_80 rfl (fun b16 => ?_)
            refine z_isub hx hb dX4_pass_83 ?_
            refine z_bipush hx hb dX4_pass_84 (by decide) ?_
            refine z_icmp_le (tgt := 99) hx hb dX4_pass_86 (by decide) (by omega) (by omega) (fun c17 => ?_) (fun c17 => ?_)
            · skip
              refine z_iinc (k := 1) (lv' := [(3, .int (iZ (y + 1))), (4, .ref (am 8 y.toNat)), (2, .int (iZ x)), (0, .ref (am 0 0)), (1, .int (iZ a))]) hx hb dX4_pass_99 hl rfl (by decide) rfl (fun ls hl => ?_)
              refine lv_goto (tgt := 34) hx hb dX4_pass_102 (by decide) ?_
              exact ih34 (x := x) (y := (y + 1)) (S3 := S3) (h1 := by omega) (h2 := by rw [h2, show (y + 1).toNat = y.toNat + 1 by omega]; refine gY_same ?_; exact if_neg (by omega)) (h3 := by rw [yPn_s (by omega), ← h3]; (first | rw [if_pos (by omega)] | rw [if_neg (by omega)]) <;> omega) (h4 := by omega) (hW := hW) (hk34 := by omega) (hI := hI) (hl := lv_sub hl [0, 2, 3, 4] rfl)
            · skip
              refine lv_aload hx hb dX4_pass_89 (lv_at hl 0 rfl) ?_
              refine z_bipush hx hb dX4_pass_91 (by decide) ?_
              refine zp_i (κ := 8) (i := y.toNat) (k := 4) hx hb LX0 tyX0 tyX0_ok nmX0 hown hK hI v12 rfl rfl (by decide) rfl f102 (fun _ h9 => h9) rfl (iZ_narc (by omega) (by omega)).1 (iZ_narc (by omega) (by omega)).2 (by omega) dX4_pass_93 (fun H locs hI => ?_)
              obtain ⟨S18, eS18⟩ : ∃ z, z = up3 S3 8 y.toNat 4 110 := ⟨_, rfl⟩
              rw [← eS18] at hI
              have hW : cW n S18 := by rw [eS18]; exact hW.put rfl
              refine z_iinc (k := 2) (lv' := [(2, .int (iZ (x + 1))), (4, .ref (am 8 y.toNat)), (3, .int (iZ y)), (0, .ref (am 0 0)), (1, .int (iZ a))]) hx hb dX4_pass_96 hl rfl (by decide) rfl (fun ls hl => ?_)
              refine z_iinc (k := 2) (lv' := [(3, .int (iZ (y + 1))), (2, .int (iZ (x + 1))), (4, .ref (am 8 y.toNat)), (0, .ref (am 0 0)), (1, .int (iZ a))]) hx hb dX4_pass_99 hl rfl (by decide) rfl (fun ls hl => ?_)
              refine lv_goto (tgt := 34) hx hb dX4_pass_102 (by decide) ?_
              exact ih34 (x := (x + 1)) (y := (y + 1)) (S3 := S18) (h1 := by omega) (h2 := by rw [eS18, h2, show (y + 1).toNat = y.toNat + 1 by omega]; refine gY_set ?_; exact if_pos (by omega)) (h3 := by rw [yPn_s (by omega), ← h3]; (first | rw [if_pos (by omega)] | rw [if_neg (by omega)]) <;> omega) (h4 := by omega) (hW := hW) (hk34 := by omega) (hI := hI) (hl := lv_sub hl [0, 1, 3, 4] rfl)
  · skip
    have c4 := zB_1 c4
    unfold yOut at c4
    exact zx_throw (text := "the number of hours is out of range") hx hb hfl hown hG hI xC_IAE xF_IAE (hts _ (by decide +kernel)) (hts _ (by decide +kernel)) (fun w h => hts w (List.mem_cons_of_mem _ (List.mem_append_right _ h))) xA_IAE xO_IAE (by decide +kernel) (by rw [hml]; exact hl.1) dX4_pass_10 dX4_pass_13 dX4_pass_14 dX4_pass_16 dX4_pass_19 hex (Nat.le_of_ble_eq_true rfl) (Nat.le_of_ble_eq_true rfl) (Nat.le_of_ble_eq_true rfl) (Nat.le_of_ble_eq_true rfl) hlocks ⟨rfl, by omega⟩ (Nat.le_of_ble_eq_true rfl) (Nat.le_of_ble_eq_true rfl)
