/-! The class's calls. -/
def yArr (S : ts_St) (i j : Nat) : ts_St := up3 (up3 (yBring S i j) 8 j 4 121) 8 j 5 (S 0 0 10)
def yShift (S : ts_St) (h i j : Nat) : ts_St := up3 (yBring (yTakeOut S h) i j) 0 0 11 (S 0 0 11 + 1)
def yDock (S : ts_St) (h d j : Nat) : ts_St := up3 (up3 (up3 (up3 (up3 (yTakeOut S h) 7 d 1 1) 8 j 9 (d : Int)) 8 j 4 119) 8 j 6 (S 0 0 10)) 0 0 11 (S 0 0 11 + 1)
def yLeave0 (S : ts_St) (j : Nat) : ts_St := up3 (up3 (up3 S 7 (S 8 j 9).toNat 1 0) 8 j 9 (-1)) 8 j 4 103
def yLeave (S : ts_St) (j : Nat) : ts_St := up3 (yLeave0 S j) 0 0 12 (S 0 0 12 + yCharge (yLeave0 S j) j)
theorem cR_of {n : Nat → Nat} {S S' : ts_St} (h : cR n S) (h0 : ∀ k, k < 12 → S' 0 0 k = S 0 0 k) (h8 : ∀ j k, j < n 8 → ¬ k = 4 → k < 7 → S' 8 j k = S 8 j k) (h4 : ∀ j, j < n 8 → 0 ≤ S' 8 j 4 ∧ S' 8 j 4 < 65536) : cR n S' := by
  unfold cR at h ⊢
  rw [h0 5 (by decide), h0 6 (by decide), h0 7 (by decide), h0 8 (by decide), h0 9 (by decide), h0 10 (by decide), h0 11 (by decide)]
  refine ⟨h.1, fun j hj => ?_⟩
  rw [h8 j 1 hj (by decide) (by decide), h8 j 2 hj (by decide) (by decide), h8 j 3 hj (by decide) (by decide), h8 j 5 hj (by decide) (by decide), h8 j 6 hj (by decide) (by decide)]
  have h1 := h.2 j hj
  have h2 := h4 j hj
  exact ⟨h1.1, h1.2.1, h1.2.2.1, h2, h1.2.2.2.2.1, h1.2.2.2.2.2⟩
theorem yLeave0_R {n : Nat → Nat} {S : ts_St} (h : cR n S) (j : Nat) : cR n (yLeave0 S j) := by
  refine cR_of h (fun k hk => ?_) (fun i k hi hk hk2 => ?_) (fun i hi => ?_)
  · unfold yLeave0
    rw [up3_n (by omega), up3_n (by omega), up3_n (by omega)]
  · unfold yLeave0
    rw [up3_n (by omega), up3_n (by omega), up3_n (by omega)]
  · unfold yLeave0
    have := (h.2 i hi).2.2.2.1
    by_cases q : i = j
    · subst q
      rw [up3_s]
      decide
    · rw [up3_n (by omega), up3_n (by omega), up3_n (by omega)]
      exact this
noncomputable def yFree (S : ts_St) (j : Nat) : Nat → Int
  | 0 => -1
  | k + 1 => if 0 ≤ yFree S j k then yFree S j k else if zB (yServe S k j) = 1 then (k : Int) else -1
theorem yFree_R (S : ts_St) (j k : Nat) : -1 ≤ yFree S j k ∧ yFree S j k < (k : Int) := by
  induction k with
  | zero => exact ⟨Int.le_refl _, show (-1 : Int) < 0 by decide⟩
  | succ k ih =>
    simp only [yFree]
    split
    · omega
    · split <;> omega
theorem yFree_s {S : ts_St} {j : Nat} {y : Int} (hy : 0 ≤ y) : yFree S j (y + 1).toNat = if 0 ≤ yFree S j y.toNat then yFree S j y.toNat else if zB (yServe S y.toNat j) = 1 then y else -1 := by
  obtain ⟨k, rfl⟩ := Int.eq_ofNat_of_zero_le hy
  rfl
theorem yFree_up {S : ts_St} {j k : Nat} (h : 0 ≤ yFree S j k) : ∀ i, yFree S j (k + i) = yFree S j k
  | 0 => rfl
  | i + 1 => by
    have h1 := yFree_up h i
    show (if 0 ≤ yFree S j (k + i) then yFree S j (k + i) else _) = _
    rw [if_pos (by omega), h1]
def yRS (S : ts_St) : Nat → Int
  | 0 => 0
  | k + 1 => yRS S k + yRate S (k : Int)
theorem yRS_s {S : ts_St} {y : Int} (hy : 0 ≤ y) : yRS S (y + 1).toNat = yRS S y.toNat + yRate S y := by
  obtain ⟨k, rfl⟩ := Int.eq_ofNat_of_zero_le hy
  rfl
theorem yRate_R {n : Nat → Nat} {S : ts_St} (h : cR n S) (x : Int) : 0 ≤ yRate S x ∧ yRate S x ≤ 99 := by
  have h1 := h.1
  unfold yRate
  split
  · omega
  · split <;> omega
def yHours (S : ts_St) (j : Nat) : Int := if yPunc S j = 108 then 0 else yRS S (yWait S j).toNat

set_option maxHeartbeats 4000000 in
set_option maxRecDepth 100000 in
theorem c_X4_setTolerance (l : Launch) (hfl : l.stackTraces = false) (D : va_G) (cA : Nat → ClassId) (n : Nat → Nat) (am : ts_Am) (S : ts_St) (sz : Nat) (a : Int) (hW : cW n S) (ha0 : iR a) : vx_Met l yX4_setTolerance wsX4_setTolerance ({ frames := 6, cells := 1, slots := 6, locals := 90 } : Room) (va_Pc [.ref (am 0 0), .int (iZ a)] (zPX TX D cA (n, am, S) sz)) (zQi TX D cA (n, am, S) sz (fun z u => (0 ≤ a ∧ a ≤ 9) ∧ z = S 0 0 5 ∧ u = (n, am, up3 S 0 0 5 a))) (zXX TX D cA (n, am, S) sz (fun E => E = xN_IAE ∧ ¬ (0 ≤ a ∧ a ≤ 9))) 1 6 (ts_A (n, am, S) sz) := by
  refine zMx_of (by decide) rfl (Nat.le_of_ble_eq_true rfl) ?_
  intro p e s m below meth c hx hb hr hts hown hlocks hml hex hK hG hsz H locs hI ls hl
  subst hsz
  have hown : s.vm.findClass RX4 = some m.cls := hown
  have hl : lv_has ls 3 [(0, .ref (am 0 0)), (1, .int (iZ a))] := hl
  have f28 := hts (.fieldLink RX4 28 "DockyardSlots" "tolerance" "I") (by decide +kernel)
  have LX4 : ∀ w ∈ wsX40, w.before [.ref (am 0 0), .int (iZ a)].toArray s = true := fun w h => hts w (List.mem_cons_of_mem _ (List.mem_append_left _ (List.mem_append_right _ h)))
  have hcn := hW.cn
  have hlim := hW.lim
  refine lv_iload_n hx hb dX4_setTolerance_0 rfl (lv_at hl 1 rfl) ?_
  refine z_iconst hx hb dX4_setTolerance_1 ?_
  refine z_bipush hx hb dX4_setTolerance_2 (by decide) ?_
  refine zc_i (zrS (As := [.int (iZ a), .int (iZ 0), .int (iZ 9)]) (rest := []) ⟨hx, hb, hml, hown, hts⟩ (c_X4_isOutside l D cA n am S H.size a 0 9 (by omega) (by omega) (by omega)) (va_cwS 3 hts gX4_setTolerance_X4_isOutside rfl rfl rfl (by decide +kernel) ⟨Nat.le_of_ble_eq_true rfl, Nat.le_of_ble_eq_true rfl⟩) hK hI rfl hl.1 rfl (Nat.le_of_ble_eq_true rfl) dX4_setTolerance_4 ⟨Nat.le_of_ble_eq_true rfl, Nat.le_of_ble_eq_true rfl⟩) hI (fun z1 u9 H locs hz2 hp3 hI hfr => ?_)
  clear hfr
  obtain ⟨rfl, rfl⟩ := hp3
  refine z_if_eq (tgt := 20) hx hb dX4_setTolerance_7 (by decide) (by omega) (fun c4 => ?_) (fun c4 => ?_)
  · skip
    have c4 := zB_0 c4
    unfold yOut at c4
    refine lv_aload_n hx hb dX4_setTolerance_20 rfl (lv_at hl 0 rfl) ?_
    refine zg_i (κ := 0) (i := 0) (k := 5) hx hb LX4 hown hK hI hW.1.1 rfl rfl (by decide) rfl f28 (fun _ h9 => h9) dX4_setTolerance_21 rfl (fun b5 => ?_)
    refine lv_istore_n (lv' := [(2, .int (iZ (S 0 0 5))), (0, .ref (am 0 0)), (1, .int (iZ a))]) hx hb dX4_setTolerance_24 rfl hl (by decide) rfl (fun ls hl => ?_)
    refine lv_aload_n hx hb dX4_setTolerance_25 rfl (lv_at hl 1 rfl) ?_
    refine lv_iload_n hx hb dX4_setTolerance_26 rfl (lv_at hl 2 rfl) ?_
    refine zp_i (κ := 0) (i := 0) (k := 5) hx hb LX4 tyX4 tyX4_ok nmX4 hown hK hI hW.1.1 rfl rfl (by decide) rfl f28 (fun _ h9 => h9) rfl rfl rfl (by omega) dX4_setTolerance_27 (fun H locs hI => ?_)
    obtain ⟨S6, eS6⟩ : ∃ z, z = up3 S 0 0 5 a := ⟨_, rfl⟩
    rw [← eS6] at hI
    have hW : cW n S6 := by rw [eS6]; exact hW.put rfl
    refine lv_iload_n hx hb dX4_setTolerance_30 rfl (lv_at hl 0 rfl) ?_
    exact vx_ret (ze_i (u' := (n, am, S6)) (z := S 0 0 5) hx hb hr rfl hI (by omega) ⟨by omega, rfl, by rw [eS6]⟩ (Nat.le_of_ble_eq_true rfl) (Nat.le_of_ble_eq_true rfl) dX4_setTolerance_31 hlocks)
  · skip
    have c4 := zB_1 c4
    unfold yOut at c4
    exact zx_throw (text := "the tolerance is out of range") hx hb hfl hown hG hI xC_IAE xF_IAE (hts _ (by decide +kernel)) (hts _ (by decide +kernel)) (fun w h => hts w (List.mem_cons_of_mem _ (List.mem_append_right _ h))) xA_IAE xO_IAE (by decide +kernel) (by rw [hml]; exact hl.1) dX4_setTolerance_10 dX4_setTolerance_13 dX4_setTolerance_14 dX4_setTolerance_16 dX4_setTolerance_19 hex (Nat.le_of_ble_eq_true rfl) (Nat.le_of_ble_eq_true rfl) (Nat.le_of_ble_eq_true rfl) (Nat.le_of_ble_eq_true rfl) hlocks ⟨rfl, by omega⟩ (Nat.le_of_ble_eq_true rfl) (Nat.le_of_ble_eq_true rfl)
set_option maxHeartbeats 4000000 in
set_option maxRecDepth 100000 in
theorem c_X4_setCharges (l : Launch) (hfl : l.stackTraces = false) (D : va_G) (cA : Nat → ClassId) (n : Nat → Nat) (am : ts_Am) (S : ts_St) (sz : Nat) (a b d v : Int) (hW : cW n S) (ha0 : iR a) (hb0 : iR b) (hd0 : iR d) (hv0 : iR v) : vx_Met l yX4_setCharges wsX4_setCharges ({ frames := 6, cells := 1, slots := 6, locals := 90 } : Room) (va_Pc [.ref (am 0 0), .int (iZ a), .int (iZ b), .int (iZ d), .int (iZ v)] (zPX TX D cA (n, am, S) sz)) (zQi TX D cA (n, am, S) sz (fun z u => ((0 ≤ a ∧ a ≤ 24) ∧ (0 ≤ b ∧ b ≤ 99) ∧ (0 ≤ d ∧ d ≤ 24) ∧ 0 ≤ v ∧ v ≤ 99) ∧ z = S 0 0 6 ∧ u = (n, am, up3 (up3 (up3 (up3 S 0 0 6 a) 0 0 7 b) 0 0 8 d) 0 0 9 v))) (zXX TX D cA (n, am, S) sz (fun E => E = xN_IAE ∧ ¬ ((0 ≤ a ∧ a ≤ 24) ∧ (0 ≤ b ∧ b ≤ 99) ∧ (0 ≤ d ∧ d ≤ 24) ∧ 0 ≤ v ∧ v ≤ 99))) 1 6 (ts_A (n, am, S) sz) := by
  refine zMx_of (by decide) rfl (Nat.le_of_ble_eq_true rfl) ?_
  intro p e s m below meth c hx hb hr hts hown hlocks hml hex hK hG hsz H locs hI ls hl
  subst hsz
  have hown : s.vm.findClass RX4 = some m.cls := hown
  have hl : lv_has ls 6 [(0, .ref (am 0 0)), (1, .int (iZ a)), (2, .int (iZ b)), (3, .int (iZ d)), (4, .int (iZ v))] := hl
  have f32 := hts (.fieldLink RX4 32 "DockyardSlots" "freeHours" "I") (by decide +kernel)
  have f35 := hts (.fieldLink RX4 35 "DockyardSlots" "firstRate" "I") (by decide +kernel)
  have f38 := hts (.fieldLink RX4 38 "DockyardSlots" "firstHours" "I") (by decide +kernel)
  have f41 := hts (.fieldLink RX4 41 "DockyardSlots" "secondRate" "I") (by decide +kernel)
  have LX4 : ∀ w ∈ wsX40, w.before [.ref (am 0 0), .int (iZ a), .int (iZ b), .int (iZ d), .int (iZ v)].toArray s = true := fun w h => hts w (List.mem_cons_of_mem _ (List.mem_append_left _ (List.mem_append_right _ h)))
  have hcn := hW.cn
  have hlim := hW.lim
  refine lv_iload_n hx hb dX4_setCharges_0 rfl (lv_at hl 1 rfl) ?_
  refine z_iconst hx hb dX4_setCharges_1 ?_
  refine z_bipush hx hb dX4_setCharges_2 (by decide) ?_
  refine zc_i (zrS (As := [.int (iZ a), .int (iZ 0), .int (iZ 24)]) (rest := []) ⟨hx, hb, hml, hown, hts⟩ (c_X4_isOutside l D cA n am S H.size a 0 24 (by omega) (by omega) (by omega)) (va_cwS 3 hts gX4_setCharges_X4_isOutside rfl rfl rfl (by decide +kernel) ⟨Nat.le_of_ble_eq_true rfl, Nat.le_of_ble_eq_true rfl⟩) hK hI rfl hl.1 rfl (Nat.le_of_ble_eq_true rfl) dX4_setCharges_4 ⟨Nat.le_of_ble_eq_true rfl, Nat.le_of_ble_eq_true rfl⟩) hI (fun z1 u9 H locs hz2 hp3 hI hfr => ?_)
  clear hfr
  obtain ⟨rfl, rfl⟩ := hp3
  refine z_if_ne (tgt := 41) hx hb dX4_setCharges_7 (by decide) (by omega) (fun c4 => ?_) (fun c4 => ?_)
  · skip
    have c4 := zB_1 c4
    unfold yOut at c4
    exact zx_throw (text := "a number is out of range") hx hb hfl hown hG hI xC_IAE xF_IAE (hts _ (by decide +kernel)) (hts _ (by decide +kernel)) (fun w h => hts w (List.mem_cons_of_mem _ (List.mem_append_right _ h))) xA_IAE xO_IAE (by decide +kernel) (by rw [hml]; exact hl.1) dX4_setCharges_41 dX4_setCharges_44 dX4_setCharges_45 dX4_setCharges_47 dX4_setCharges_50 hex (Nat.le_of_ble_eq_true rfl) (Nat.le_of_ble_eq_true rfl) (Nat.le_of_ble_eq_true rfl) (Nat.le_of_ble_eq_true rfl) hlocks ⟨rfl, by omega⟩ (Nat.le_of_ble_eq_true rfl) (Nat.le_of_ble_eq_true rfl)
  · skip
    have c4 := zB_0 c4
    unfold yOut at c4
    refine lv_iload_n hx hb dX4_setCharges_10 rfl (lv_at hl 2 rfl) ?_
    refine z_iconst hx hb dX4_setCharges_11 ?_
    refine z_bipush hx hb dX4_setCharges_12 (by decide) ?_
    refine zc_i (zrS (As := [.int (iZ b), .int (iZ 0), .int (iZ 99)]) (rest := []) ⟨hx, hb, hml, hown, hts⟩ (c_X4_isOutside l D cA n am S H.size b 0 99 (by omega) (by omega) (by omega)) (va_cwS 3 hts gX4_setCharges_X4_isOutside rfl rfl rfl (by decide +kernel) ⟨Nat.le_of_ble_eq_true rfl, Nat.le_of_ble_eq_true rfl⟩) hK hI rfl hl.1 rfl (Nat.le_of_ble_eq_true rfl) dX4_setCharges_14 ⟨Nat.le_of_ble_eq_true rfl, Nat.le_of_ble_eq_true rfl⟩) hI (fun z5 u9 H locs hz6 hp7 hI hfr => ?_)
    clear hfr
    obtain ⟨rfl, rfl⟩ := hp7
    refine z_if_ne (tgt := 41) hx hb dX4_setCharges_17 (by decide) (by omega) (fun c8 => ?_) (fun c8 => ?_)
    · skip
      have c8 := zB_1 c8
      unfold yOut at c8
      exact zx_throw (text := "a number is out of range") hx hb hfl hown hG hI xC_IAE xF_IAE (hts _ (by decide +kernel)) (hts _ (by decide +kernel)) (fun w h => hts w (List.mem_cons_of_mem _ (List.mem_append_right _ h))) xA_IAE xO_IAE (by decide +kernel) (by rw [hml]; exact hl.1) dX4_setCharges_41 dX4_setCharges_44 dX4_setCharges_45 dX4_setCharges_47 dX4_setCharges_50 hex (Nat.le_of_ble_eq_true rfl) (Nat.le_of_ble_eq_true rfl) (Nat.le_of_ble_eq_true rfl) (Nat.le_of_ble_eq_true rfl) hlocks ⟨rfl, by omega⟩ (Nat.le_of_ble_eq_true rfl) (Nat.le_of_ble_eq_true rfl)
    · skip
      have c8 := zB_0 c8
      unfold yOut at c8
      refine lv_iload_n hx hb dX4_setCharges_20 rfl (lv_at hl 3 rfl) ?_
      refine z_iconst hx hb dX4_setCharges_21 ?_
      refine z_bipush hx hb dX4_setCharges_22 (by decide) ?_
      refine zc_i (zrS (As := [.int (iZ d), .int (iZ 0), .int (iZ 24)]) (rest := []) ⟨hx, hb, hml, hown, hts⟩ (c_X4_isOutside l D cA n am S H.size d 0 24 (by omega) (by omega) (by omega)) (va_cwS 3 hts gX4_setCharges_X4_isOutside rfl rfl rfl (by decide +kernel) ⟨Nat.le_of_ble_eq_true rfl, Nat.le_of_ble_eq_true rfl⟩) hK hI rfl hl.1 rfl (Nat.le_of_ble_eq_true rfl) dX4_setCharges_24 ⟨Nat.le_of_ble_eq_true rfl, Nat.le_of_ble_eq_true rfl⟩) hI (fun z9 u9 H locs hz10 hp11 hI hfr => ?_)
      clear hfr
      obtain ⟨rfl, rfl⟩ := hp11
      refine z_if_ne (tgt := 41) hx hb dX4_setCharges_27 (by decide) (by omega) (fun c12 => ?_) (fun c12 => ?_)
      · skip
        have c12 := zB_1 c12
        unfold yOut at c12
        exact zx_throw (text := "a number is out of range") hx hb hfl hown hG hI xC_IAE xF_IAE (hts _ (by decide +kernel)) (hts _ (by decide +kernel)) (fun w h => hts w (List.mem_cons_of_mem _ (List.mem_append_right _ h))) xA_IAE xO_IAE (by decide +kernel) (by rw [hml]; exact hl.1) dX4_setCharges_41 dX4_setCharges_44 dX4_setCharges_45 dX4_setCharges_47 dX4_setCharges_50 hex (Nat.le_of_ble_eq_true rfl) (Nat.le_of_ble_eq_true rfl) (Nat.le_of_ble_eq_true rfl) (Nat.le_of_ble_eq_true rfl) hlocks ⟨rfl, by omega⟩ (Nat.le_of_ble_eq_true rfl) (Nat.le_of_ble_eq_true rfl)
      · skip
        have c12 := zB_0 c12
        unfold yOut at c12
        refine lv_iload hx hb dX4_setCharges_30 (lv_at hl 4 rfl) ?_
        refine z_iconst hx hb dX4_setCharges_32 ?_
        refine z_bipush hx hb dX4_setCharges_33 (by decide) ?_
        refine zc_i (zrS (As := [.int (iZ v), .int (iZ 0), .int (iZ 99)]) (rest := []) ⟨hx, hb, hml, hown, hts⟩ (c_X4_isOutside l D cA n am S H.size v 0 99 (by omega) (by omega) (by omega)) (va_cwS 3 hts gX4_setCharges_X4_isOutside rfl rfl rfl (by decide +kernel) ⟨Nat.le_of_ble_eq_true rfl, Nat.le_of_ble_eq_true rfl⟩) hK hI rfl hl.1 rfl (Nat.le_of_ble_eq_true rfl) dX4_setCharges_35 ⟨Nat.le_of_ble_eq_true rfl, Nat.le_of_ble_eq_true rfl⟩) hI (fun z13 u9 H locs hz14 hp15 hI hfr => ?_)
        clear hfr
        obtain ⟨rfl, rfl⟩ := hp15
        refine z_if_eq (tgt := 51) hx hb dX4_setCharges_38 (by decide) (by omega) (fun c16 => ?_) (fun c16 => ?_)
        · skip
          have c16 := zB_0 c16
          unfold yOut at c16
          refine lv_aload_n hx hb dX4_setCharges_51 rfl (lv_at hl 0 rfl) ?_
          refine zg_i (κ := 0) (i := 0) (k := 6) hx hb LX4 hown hK hI hW.1.1 rfl rfl (by decide) rfl f32 (fun _ h9 => h9) dX4_setCharges_52 rfl (fun b17 => ?_)
          refine lv_istore (lv' := [(5, .int (iZ (S 0 0 6))), (0, .ref (am 0 0)), (1, .int (iZ a)), (2, .int (iZ b)), (3, .int (iZ d)), (4, .int (iZ v))]) hx hb dX4_setCharges_55 hl (by decide) rfl (fun ls hl => ?_)
          refine lv_aload_n hx hb dX4_setCharges_57 rfl (lv_at hl 1 rfl) ?_
          refine lv_iload_n hx hb dX4_setCharges_58 rfl (lv_at hl 2 rfl) ?_
          refine zp_i (κ := 0) (i := 0) (k := 6) hx hb LX4 tyX4 tyX4_ok nmX4 hown hK hI hW.1.1 rfl rfl (by decide) rfl f32 (fun _ h9 => h9) rfl rfl rfl (by omega) dX4_setCharges_59 (fun H locs hI => ?_)
          obtain ⟨S18, eS18⟩ : ∃ z, z = up3 S 0 0 6 a := ⟨_, rfl⟩
          rw [← eS18] at hI
          have hW : cW n S18 := by rw [eS18]; exact hW.put rfl
          refine lv_aload_n hx hb dX4_setCharges_62 rfl (lv_at hl 1 rfl) ?_
          refine lv_iload_n hx hb dX4_setCharges_63 rfl (lv_at hl 3 rfl) ?_
          refine zp_i (κ := 0) (i := 0) (k := 7) hx hb LX4 tyX4 tyX4_ok nmX4 hown hK hI hW.1.1 rfl rfl (by decide) rfl f35 (fun _ h9 => h9) rfl rfl rfl (by omega) dX4_setCharges_64 (fun H locs hI => ?_)
          obtain ⟨S19, eS19⟩ : ∃ z, z = up3 S18 0 0 7 b := ⟨_, rfl⟩
          rw [← eS19] at hI
          have hW : cW n S19 := by rw [eS19]; exact hW.put rfl
          refine lv_aload_n hx hb dX4_setCharges_67 rfl (lv_at hl 1 rfl) ?_
          refine lv_iload_n hx hb dX4_setCharges_68 rfl (lv_at hl 4 rfl) ?_
          refine zp_i (κ := 0) (i := 0) (k := 8) hx hb LX4 tyX4 tyX4_ok nmX4 hown hK hI hW.1.1 rfl rfl (by decide) rfl f38 (fun _ h9 => h9) rfl rfl rfl (by omega) dX4_setCharges_69 (fun H locs hI => ?_)
          obtain ⟨S20, eS20⟩ : ∃ z, z = up3 S19 0 0 8 d := ⟨_, rfl⟩
          rw [← eS20] at hI
          have hW : cW n S20 := by rw [eS20]; exact hW.put rfl
          refine lv_aload_n hx hb dX4_setCharges_72 rfl (lv_at hl 1 rfl) ?_
          refine lv_iload hx hb dX4_setCharges_73 (lv_at hl 5 rfl) ?_
          refine zp_i (κ := 0) (i := 0) (k := 9) hx hb LX4 tyX4 tyX4_ok nmX4 hown hK hI hW.1.1 rfl rfl (by decide) rfl f41 (fun _ h9 => h9) rfl rfl rfl (by omega) dX4_setCharges_75 (fun H locs hI => ?_)
          obtain ⟨S21, eS21⟩ : ∃ z, z = up3 S20 0 0 9 v := ⟨_, rfl⟩
          rw [← eS21] at hI
          have hW : cW n S21 := by rw [eS21]; exact hW.put rfl
          refine lv_iload hx hb dX4_setCharges_78 (lv_at hl 0 rfl) ?_
          exact vx_ret (ze_i (u' := (n, am, S21)) (z := S 0 0 6) hx hb hr rfl hI (by omega) ⟨by omega, rfl, by rw [eS21, eS20, eS19, eS18]⟩ (Nat.le_of_ble_eq_true rfl) (Nat.le_of_ble_eq_true rfl) dX4_setCharges_80 hlocks)
        · skip
          have c16 := zB_1 c16
          unfold yOut at c16
          exact zx_throw (text := "a number is out of range") hx hb hfl hown hG hI xC_IAE xF_IAE (hts _ (by decide +kernel)) (hts _ (by decide +kernel)) (fun w h => hts w (List.mem_cons_of_mem _ (List.mem_append_right _ h))) xA_IAE xO_IAE (by decide +kernel) (by rw [hml]; exact hl.1) dX4_setCharges_41 dX4_setCharges_44 dX4_setCharges_45 dX4_setCharges_47 dX4_setCharges_50 hex (Nat.le_of_ble_eq_true rfl) (Nat.le_of_ble_eq_true rfl) (Nat.le_of_ble_eq_true rfl) (Nat.le_of_ble_eq_true rfl) hlocks ⟨rfl, by omega⟩ (Nat.le_of_ble_eq_true rfl) (Nat.le_of_ble_eq_true rfl)
set_option maxHeartbeats 4000000 in
set_option maxRecDepth 100000 in
theorem c_X4_state (l : Launch) (hfl : l.stackTraces = false) (D : va_G) (cA : Nat → ClassId) (n : Nat → Nat) (am : ts_Am) (S : ts_St) (sz : Nat) (x : Int) (hW : cW n S) (hx0 : iR x) (hcr : cR n S) : vx_Met l yX4_state wsX4_state ({ frames := 7, cells := 1, slots := 6, locals := 112 } : Room) (va_Pc [.ref (am 0 0), .int (iZ x)] (zPX TX D cA (n, am, S) sz)) (zQi TX D cA (n, am, S) sz (fun z u => (0 ≤ x ∧ x < (n 8 : Int)) ∧ z = S 8 x.toNat 4 ∧ u = (n, am, S))) (zXX TX D cA (n, am, S) sz (fun E => E = xN_NSE ∧ ¬ (0 ≤ x ∧ x < (n 8 : Int)))) 1 6 (ts_A (n, am, S) sz) := by
  refine zMx_of (by decide) rfl (Nat.le_of_ble_eq_true rfl) ?_
  intro p e s m below meth c hx hb hr hts hown hlocks hml hex hK hG hsz H locs hI ls hl
  subst hsz
  have hown : s.vm.findClass RX4 = some m.cls := hown
  have hl : lv_has ls 2 [(0, .ref (am 0 0)), (1, .int (iZ x))] := hl
  have f102 := hts (.fieldLink RX4 102 "DockyardSlots$Appointment" "state" "C") (by decide +kernel)
  have LX0 : ∀ w ∈ wsX00, w.before [.ref (am 0 0), .int (iZ x)].toArray s = true := fun w h => hts w (List.mem_cons_of_mem _ (List.mem_append_left _ (List.mem_append_left _ (List.mem_append_right _ h))))
  have hcn := hW.cn
  have hlim := hW.lim
  refine lv_aload_n hx hb dX4_state_0 rfl (lv_at hl 0 rfl) ?_
  refine lv_iload_n hx hb dX4_state_1 rfl (lv_at hl 1 rfl) ?_
  refine zxc_q (zxV (As := [.int (iZ x)]) (rest := []) (κ := 0) (i := 0) ⟨hx, hb, hml, hown, hts⟩ (c_X4_appointmentOrThrow l hfl D cA n am S H.size x hW (by omega)) (cwV 1 hts gX4_state_X4_appointmentOrThrow rfl rfl rfl (by decide +kernel) ⟨Nat.le_of_ble_eq_true rfl, Nat.le_of_ble_eq_true rfl⟩) hK hI hG hW.1.1 rfl rfl rfl hl.1 rfl (Nat.le_of_ble_eq_true rfl) dX4_state_2 ⟨Nat.le_of_ble_eq_true rfl, Nat.le_of_ble_eq_true rfl⟩) hI hex hlocks (fun E q => q) (Nat.le_of_ble_eq_true rfl) (Nat.le_of_ble_eq_true rfl) (fun z u q => q.1.1) (fun j1 u9 H locs v2 hp3 hI => ?_)
  obtain ⟨⟨q4, q5, q6⟩, rfl⟩ := hp3
  obtain rfl : j1 = x.toNat := by omega
  have v2 : x.toNat < n 8 := v2
  refine zg_i (κ := 8) (i := x.toNat) (k := 4) hx hb LX0 hown hK hI v2 rfl rfl (by decide) rfl f102 (fun _ h9 => h9) dX4_state_5 rfl (fun b7 => ?_)
  exact vx_ret (ze_i (u' := (n, am, S)) (z := S 8 x.toNat 4) hx hb hr (iZ_narc (by have := hcr.2 x.toNat (by omega); omega) (by have := hcr.2 x.toNat (by omega); omega)).1 hI (by omega) ⟨by omega, rfl, rfl⟩ (Nat.le_of_ble_eq_true rfl) (Nat.le_of_ble_eq_true rfl) dX4_state_8 hlocks)
set_option maxHeartbeats 4000000 in
set_option maxRecDepth 100000 in
theorem c_X4_punctuality (l : Launch) (hfl : l.stackTraces = false) (D : va_G) (cA : Nat → ClassId) (n : Nat → Nat) (am : ts_Am) (S : ts_St) (sz : Nat) (x : Int) (hW : cW n S) (hx0 : iR x) : vx_Met l yX4_punctuality wsX4_punctuality ({ frames := 8, cells := 2, slots := 12, locals := 134 } : Room) (va_Pc [.ref (am 0 0), .int (iZ x)] (zPX TX D cA (n, am, S) sz)) (zQi TX D cA (n, am, S) sz (fun z u => ((0 ≤ x ∧ x < (n 8 : Int)) ∧ yCame S x.toNat) ∧ z = yPunc S x.toNat ∧ u = (n, am, S))) (zXX TX D cA (n, am, S) sz (fun E => (E = xN_NSE ∧ ¬ (0 ≤ x ∧ x < (n 8 : Int))) ∨ (E = xN_ISE ∧ (0 ≤ x ∧ x < (n 8 : Int)) ∧ ¬ yCame S x.toNat))) 2 12 (ts_A (n, am, S) sz) := by
  refine zMx_of (by decide) rfl (Nat.le_of_ble_eq_true rfl) ?_
  intro p e s m below meth c hx hb hr hts hown hlocks hml hex hK hG hsz H locs hI ls hl
  subst hsz
  have hown : s.vm.findClass RX4 = some m.cls := hown
  have hl : lv_has ls 2 [(0, .ref (am 0 0)), (1, .int (iZ x))] := hl
  have hcn := hW.cn
  have hlim := hW.lim
  refine lv_aload_n hx hb dX4_punctuality_0 rfl (lv_at hl 0 rfl) ?_
  refine lv_aload_n hx hb dX4_punctuality_1 rfl (lv_at hl 0 rfl) ?_
  refine lv_iload_n hx hb dX4_punctuality_2 rfl (lv_at hl 1 rfl) ?_
  refine zxc_q (zxV (As := [.int (iZ x)]) (rest := [.ref (am 0 0)]) (κ := 0) (i := 0) ⟨hx, hb, hml, hown, hts⟩ (c_X4_arrivedOrThrow l hfl D cA n am S H.size x hW (by omega)) (cwV 1 hts gX4_punctuality_X4_arrivedOrThrow rfl rfl rfl (by decide +kernel) ⟨Nat.le_of_ble_eq_true rfl, Nat.le_of_ble_eq_true rfl⟩) hK hI hG hW.1.1 rfl rfl rfl hl.1 rfl (Nat.le_of_ble_eq_true rfl) dX4_punctuality_3 ⟨Nat.le_of_ble_eq_true rfl, Nat.le_of_ble_eq_true rfl⟩) hI hex hlocks (fun E q => q) (Nat.le_of_ble_eq_true rfl) (Nat.le_of_ble_eq_true rfl) (fun z u q => q.1.1) (fun j1 u9 H locs v2 hp3 hI => ?_)
  obtain ⟨⟨q4, q5, q6, q7⟩, rfl⟩ := hp3
  obtain rfl : j1 = x.toNat := by omega
  have v2 : x.toNat < n 8 := v2
  refine zc_i (zrV (As := [.ref (am 8 x.toNat)]) (rest := []) (κ := 0) (i := 0) ⟨hx, hb, hml, hown, hts⟩ (c_X4_punctualityOf l D cA n am S H.size x.toNat hW v2) (cwV 1 hts gX4_punctuality_X4_punctualityOf rfl rfl rfl (by decide +kernel) ⟨Nat.le_of_ble_eq_true rfl, Nat.le_of_ble_eq_true rfl⟩) hK hI hW.1.1 rfl rfl rfl hl.1 rfl (Nat.le_of_ble_eq_true rfl) dX4_punctuality_6 ⟨Nat.le_of_ble_eq_true rfl, Nat.le_of_ble_eq_true rfl⟩) hI (fun z8 u9 H locs hz9 hp10 hI hfr => ?_)
  clear hfr
  obtain ⟨rfl, rfl⟩ := hp10
  exact vx_ret (ze_i (u' := (n, am, S)) (z := yPunc S x.toNat) hx hb hr (iZ_narc (by have := yPunc_R S x.toNat; omega) (by have := yPunc_R S x.toNat; omega)).1 hI (by have := yPunc_R S x.toNat; omega) ⟨⟨by omega, q7⟩, rfl, rfl⟩ (Nat.le_of_ble_eq_true rfl) (Nat.le_of_ble_eq_true rfl) dX4_punctuality_9 hlocks)
set_option maxHeartbeats 4000000 in
set_option maxRecDepth 100000 in
theorem c_X4_waited (l : Launch) (hfl : l.stackTraces = false) (D : va_G) (cA : Nat → ClassId) (n : Nat → Nat) (am : ts_Am) (S : ts_St) (sz : Nat) (x : Int) (hW : cW n S) (hx0 : iR x) : vx_Met l yX4_waited wsX4_waited ({ frames := 8, cells := 2, slots := 12, locals := 134 } : Room) (va_Pc [.ref (am 0 0), .int (iZ x)] (zPX TX D cA (n, am, S) sz)) (zQi TX D cA (n, am, S) sz (fun z u => ((0 ≤ x ∧ x < (n 8 : Int)) ∧ yCame S x.toNat) ∧ z = yWait S x.toNat ∧ u = (n, am, S))) (zXX TX D cA (n, am, S) sz (fun E => (E = xN_NSE ∧ ¬ (0 ≤ x ∧ x < (n 8 : Int))) ∨ (E = xN_ISE ∧ (0 ≤ x ∧ x < (n 8 : Int)) ∧ ¬ yCame S x.toNat))) 2 12 (ts_A (n, am, S) sz) := by
  refine zMx_of (by decide) rfl (Nat.le_of_ble_eq_true rfl) ?_
  intro p e s m below meth c hx hb hr hts hown hlocks hml hex hK hG hsz H locs hI ls hl
  subst hsz
  have hown : s.vm.findClass RX4 = some m.cls := hown
  have hl : lv_has ls 2 [(0, .ref (am 0 0)), (1, .int (iZ x))] := hl
  have hcn := hW.cn
  have hlim := hW.lim
  refine lv_aload_n hx hb dX4_waited_0 rfl (lv_at hl 0 rfl) ?_
  refine lv_aload_n hx hb dX4_waited_1 rfl (lv_at hl 0 rfl) ?_
  refine lv_iload_n hx hb dX4_waited_2 rfl (lv_at hl 1 rfl) ?_
  refine zxc_q (zxV (As := [.int (iZ x)]) (rest := [.ref (am 0 0)]) (κ := 0) (i := 0) ⟨hx, hb, hml, hown, hts⟩ (c_X4_arrivedOrThrow l hfl D cA n am S H.size x hW (by omega)) (cwV 1 hts gX4_waited_X4_arrivedOrThrow rfl rfl rfl (by decide +kernel) ⟨Nat.le_of_ble_eq_true rfl, Nat.le_of_ble_eq_true rfl⟩) hK hI hG hW.1.1 rfl rfl rfl hl.1 rfl (Nat.le_of_ble_eq_true rfl) dX4_waited_3 ⟨Nat.le_of_ble_eq_true rfl, Nat.le_of_ble_eq_true rfl⟩) hI hex hlocks (fun E q => q) (Nat.le_of_ble_eq_true rfl) (Nat.le_of_ble_eq_true rfl) (fun z u q => q.1.1) (fun j1 u9 H locs v2 hp3 hI => ?_)
  obtain ⟨⟨q4, q5, q6, q7⟩, rfl⟩ := hp3
  obtain rfl : j1 = x.toNat := by omega
  have v2 : x.toNat < n 8 := v2
  refine zc_i (zrV (As := [.ref (am 8 x.toNat)]) (rest := []) (κ := 0) (i := 0) ⟨hx, hb, hml, hown, hts⟩ (c_X4_waitingHours l D cA n am S H.size x.toNat hW v2) (cwV 1 hts gX4_waited_X4_waitingHours rfl rfl rfl (by decide +kernel) ⟨Nat.le_of_ble_eq_true rfl, Nat.le_of_ble_eq_true rfl⟩) hK hI hW.1.1 rfl rfl rfl hl.1 rfl (Nat.le_of_ble_eq_true rfl) dX4_waited_6 ⟨Nat.le_of_ble_eq_true rfl, Nat.le_of_ble_eq_true rfl⟩) hI (fun z8 u9 H locs hz9 hp10 hI hfr => ?_)
  clear hfr
  obtain ⟨rfl, rfl⟩ := hp10
  exact vx_ret (ze_i (u' := (n, am, S)) (z := yWait S x.toNat) hx hb hr rfl hI (by omega) ⟨⟨by omega, q7⟩, rfl, rfl⟩ (Nat.le_of_ble_eq_true rfl) (Nat.le_of_ble_eq_true rfl) dX4_waited_9 hlocks)
set_option maxHeartbeats 4000000 in
set_option maxRecDepth 100000 in
theorem c_X4_charge (l : Launch) (hfl : l.stackTraces = false) (D : va_G) (cA : Nat → ClassId) (n : Nat → Nat) (am : ts_Am) (S : ts_St) (sz : Nat) (x : Int) (hW : cW n S) (hx0 : iR x) (hcr : cR n S) : vx_Met l yX4_charge wsX4_charge ({ frames := 8, cells := 2, slots := 12, locals := 134 } : Room) (va_Pc [.ref (am 0 0), .int (iZ x)] (zPX TX D cA (n, am, S) sz)) (zQi TX D cA (n, am, S) sz (fun z u => ((0 ≤ x ∧ x < (n 8 : Int)) ∧ yCame S x.toNat) ∧ z = yCharge S x.toNat ∧ u = (n, am, S))) (zXX TX D cA (n, am, S) sz (fun E => (E = xN_NSE ∧ ¬ (0 ≤ x ∧ x < (n 8 : Int))) ∨ (E = xN_ISE ∧ (0 ≤ x ∧ x < (n 8 : Int)) ∧ ¬ yCame S x.toNat))) 2 12 (ts_A (n, am, S) sz) := by
  refine zMx_of (by decide) rfl (Nat.le_of_ble_eq_true rfl) ?_
  intro p e s m below meth c hx hb hr hts hown hlocks hml hex hK hG hsz H locs hI ls hl
  subst hsz
  have hown : s.vm.findClass RX4 = some m.cls := hown
  have hl : lv_has ls 2 [(0, .ref (am 0 0)), (1, .int (iZ x))] := hl
  have hcn := hW.cn
  have hlim := hW.lim
  refine lv_aload_n hx hb dX4_charge_0 rfl (lv_at hl 0 rfl) ?_
  refine lv_aload_n hx hb dX4_charge_1 rfl (lv_at hl 0 rfl) ?_
  refine lv_iload_n hx hb dX4_charge_2 rfl (lv_at hl 1 rfl) ?_
  refine zxc_q (zxV (As := [.int (iZ x)]) (rest := [.ref (am 0 0)]) (κ := 0) (i := 0) ⟨hx, hb, hml, hown, hts⟩ (c_X4_arrivedOrThrow l hfl D cA n am S H.size x hW (by omega)) (cwV 1 hts gX4_charge_X4_arrivedOrThrow rfl rfl rfl (by decide +kernel) ⟨Nat.le_of_ble_eq_true rfl, Nat.le_of_ble_eq_true rfl⟩) hK hI hG hW.1.1 rfl rfl rfl hl.1 rfl (Nat.le_of_ble_eq_true rfl) dX4_charge_3 ⟨Nat.le_of_ble_eq_true rfl, Nat.le_of_ble_eq_true rfl⟩) hI hex hlocks (fun E q => q) (Nat.le_of_ble_eq_true rfl) (Nat.le_of_ble_eq_true rfl) (fun z u q => q.1.1) (fun j1 u9 H locs v2 hp3 hI => ?_)
  obtain ⟨⟨q4, q5, q6, q7⟩, rfl⟩ := hp3
  obtain rfl : j1 = x.toNat := by omega
  have v2 : x.toNat < n 8 := v2
  refine zc_i (zrV (As := [.ref (am 8 x.toNat)]) (rest := []) (κ := 0) (i := 0) ⟨hx, hb, hml, hown, hts⟩ (c_X4_chargeInSteps l D cA n am S H.size x.toNat hW v2 hcr) (cwV 1 hts gX4_charge_X4_chargeInSteps rfl rfl rfl (by decide +kernel) ⟨Nat.le_of_ble_eq_true rfl, Nat.le_of_ble_eq_true rfl⟩) hK hI hW.1.1 rfl rfl rfl hl.1 rfl (Nat.le_of_ble_eq_true rfl) dX4_charge_6 ⟨Nat.le_of_ble_eq_true rfl, Nat.le_of_ble_eq_true rfl⟩) hI (fun z8 u9 H locs hz9 hp10 hI hfr => ?_)
  clear hfr
  obtain ⟨rfl, rfl⟩ := hp10
  exact vx_ret (ze_i (u' := (n, am, S)) (z := yCharge S x.toNat) hx hb hr rfl hI (by omega) ⟨⟨by omega, q7⟩, rfl, rfl⟩ (Nat.le_of_ble_eq_true rfl) (Nat.le_of_ble_eq_true rfl) dX4_charge_9 hlocks)
set_option maxHeartbeats 4000000 in
set_option maxRecDepth 100000 in
theorem c_X4_chargeByHours (l : Launch) (hfl : l.stackTraces = false) (D : va_G) (cA : Nat → ClassId) (n : Nat → Nat) (am : ts_Am) (S : ts_St) (sz : Nat) (x : Int) (hW : cW n S) (hx0 : iR x) (hcr : cR n S) : vx_Met l yX4_chargeByHours wsX4_chargeByHours ({ frames := 8, cells := 2, slots := 12, locals := 134 } : Room) (va_Pc [.ref (am 0 0), .int (iZ x)] (zPX TX D cA (n, am, S) sz)) (zQi TX D cA (n, am, S) sz (fun z u => ((0 ≤ x ∧ x < (n 8 : Int)) ∧ yCame S x.toNat) ∧ z = yHours S x.toNat ∧ u = (n, am, S))) (zXX TX D cA (n, am, S) sz (fun E => (E = xN_NSE ∧ ¬ (0 ≤ x ∧ x < (n 8 : Int))) ∨ (E = xN_ISE ∧ (0 ≤ x ∧ x < (n 8 : Int)) ∧ ¬ yCame S x.toNat))) 2 12 (ts_A (n, am, S) sz) := by
  refine zMx_of (by decide) rfl (Nat.le_of_ble_eq_true rfl) ?_
  intro p e s m below meth c hx hb hr hts hown hlocks hml hex hK hG hsz H locs hI ls hl
  subst hsz
  have hown : s.vm.findClass RX4 = some m.cls := hown
  have hl : lv_has ls 6 [(0, .ref (am 0 0)), (1, .int (iZ x))] := hl
  have hcn := hW.cn
  have hlim := hW.lim
  refine lv_aload_n hx hb dX4_chargeByHours_0 rfl (lv_at hl 0 rfl) ?_
  refine lv_iload_n hx hb dX4_chargeByHours_1 rfl (lv_at hl 1 rfl) ?_
  refine zxc_q (zxV (As := [.int (iZ x)]) (rest := []) (κ := 0) (i := 0) ⟨hx, hb, hml, hown, hts⟩ (c_X4_arrivedOrThrow l hfl D cA n am S H.size x hW (by omega)) (cwV 1 hts gX4_chargeByHours_X4_arrivedOrThrow rfl rfl rfl (by decide +kernel) ⟨Nat.le_of_ble_eq_true rfl, Nat.le_of_ble_eq_true rfl⟩) hK hI hG hW.1.1 rfl rfl rfl hl.1 rfl (Nat.le_of_ble_eq_true rfl) dX4_chargeByHours_2 ⟨Nat.le_of_ble_eq_true rfl, Nat.le_of_ble_eq_true rfl⟩) hI hex hlocks (fun E q => q) (Nat.le_of_ble_eq_true rfl) (Nat.le_of_ble_eq_true rfl) (fun z u q => q.1.1) (fun j1 u9 H locs v2 hp3 hI => ?_)
  obtain ⟨⟨q4, q5, q6, q7⟩, rfl⟩ := hp3
  obtain rfl : j1 = x.toNat := by omega
  have v2 : x.toNat < n 8 := v2
  refine lv_astore_n (lv' := [(2, .ref (am 8 x.toNat)), (0, .ref (am 0 0)), (1, .int (iZ x))]) hx hb dX4_chargeByHours_5 rfl hl (by decide) rfl (fun ls hl => ?_)
  refine lv_aload_n hx hb dX4_chargeByHours_6 rfl (lv_at hl 1 rfl) ?_
  refine lv_aload_n hx hb dX4_chargeByHours_7 rfl (lv_at hl 0 rfl) ?_
  refine zc_i (zrV (As := [.ref (am 8 x.toNat)]) (rest := []) (κ := 0) (i := 0) ⟨hx, hb, hml, hown, hts⟩ (c_X4_punctualityOf l D cA n am S H.size x.toNat hW v2) (cwV 1 hts gX4_chargeByHours_X4_punctualityOf rfl rfl rfl (by decide +kernel) ⟨Nat.le_of_ble_eq_true rfl, Nat.le_of_ble_eq_true rfl⟩) hK hI hW.1.1 rfl rfl rfl hl.1 rfl (Nat.le_of_ble_eq_true rfl) dX4_chargeByHours_8 ⟨Nat.le_of_ble_eq_true rfl, Nat.le_of_ble_eq_true rfl⟩) hI (fun z8 u9 H locs hz9 hp10 hI hfr => ?_)
  clear hfr
  obtain ⟨rfl, rfl⟩ := hp10
  refine z_bipush hx hb dX4_chargeByHours_11 (by decide) ?_
  have hpr := yPunc_R S x.toNat
  refine z_icmp_ne (tgt := 18) hx hb dX4_chargeByHours_13 (by decide) (by omega) (by omega) (fun c11 => ?_) (fun c11 => ?_)
  · skip
    have hwt := yWait_R hcr (j := x.toNat) (by omega)
    refine lv_aload_n hx hb dX4_chargeByHours_18 rfl (lv_at hl 1 rfl) ?_
    refine lv_aload_n hx hb dX4_chargeByHours_19 rfl (lv_at hl 0 rfl) ?_
    refine zc_i (zrV (As := [.ref (am 8 x.toNat)]) (rest := []) (κ := 0) (i := 0) ⟨hx, hb, hml, hown, hts⟩ (c_X4_waitingHours l D cA n am S H.size x.toNat hW v2) (cwV 1 hts gX4_chargeByHours_X4_waitingHours rfl rfl rfl (by decide +kernel) ⟨Nat.le_of_ble_eq_true rfl, Nat.le_of_ble_eq_true rfl⟩) hK hI hW.1.1 rfl rfl rfl hl.1 rfl (Nat.le_of_ble_eq_true rfl) dX4_chargeByHours_20 ⟨Nat.le_of_ble_eq_true rfl, Nat.le_of_ble_eq_true rfl⟩) hI (fun z12 u9 H locs hz13 hp14 hI hfr => ?_)
    clear hfr
    obtain ⟨rfl, rfl⟩ := hp14
    refine lv_istore_n (lv' := [(3, .int (iZ (yWait S x.toNat))), (2, .ref (am 8 x.toNat)), (0, .ref (am 0 0)), (1, .int (iZ x))]) hx hb dX4_chargeByHours_23 rfl hl (by decide) rfl (fun ls hl => ?_)
    refine z_iconst hx hb dX4_chargeByHours_24 ?_
    refine lv_istore (lv' := [(4, .int (iZ 0)), (3, .int (iZ (yWait S x.toNat))), (2, .ref (am 8 x.toNat)), (0, .ref (am 0 0)), (1, .int (iZ x))]) hx hb dX4_chargeByHours_25 hl (by decide) rfl (fun ls hl => ?_)
    refine z_iconst hx hb dX4_chargeByHours_27 ?_
    refine lv_istore (lv' := [(5, .int (iZ 0)), (4, .int (iZ 0)), (3, .int (iZ (yWait S x.toNat))), (2, .ref (am 8 x.toNat)), (0, .ref (am 0 0)), (1, .int (iZ x))]) hx hb dX4_chargeByHours_28 hl (by decide) rfl (fun ls hl => ?_)
    obtain ⟨v, e_v⟩ : ∃ z : Int, z = 0 := ⟨_, rfl⟩
    obtain ⟨w, e_w⟩ : ∃ z : Int, z = 0 := ⟨_, rfl⟩
    replace hl : lv_has ls 6 [(5, .int (iZ w)), (4, .int (iZ v)), (3, .int (iZ (yWait S x.toNat))), (2, .ref (am 8 x.toNat)), (0, .ref (am 0 0)), (1, .int (iZ x))] := by rw [e_v, e_w]; exact hl
    have h1 : 0 ≤ w ∧ w ≤ yWait S x.toNat := by omega
    have h2 : v = yRS S w.toNat := by rw [e_v, e_w]; rfl
    have h3 : 0 ≤ v ∧ v ≤ 99 * w := by omega
    obtain ⟨k30, hk30⟩ : ∃ k : Nat, yWait S x.toNat - w < (k : Int) := ⟨(yWait S x.toNat - w).toNat + 1, by omega⟩
    clear e_v e_w
    induction k30 generalizing v w H locs ls with
    | zero => omega
    | succ k30 ih30 =>
      refine lv_iload hx hb dX4_chargeByHours_30 (lv_at hl 0 rfl) ?_
      refine lv_iload_n hx hb dX4_chargeByHours_32 rfl (lv_at hl 2 rfl) ?_
      refine z_icmp_ge (tgt := 53) hx hb dX4_chargeByHours_33 (by decide) (by omega) (by omega) (fun c15 => ?_) (fun c15 => ?_)
      · skip
        refine lv_iload hx hb dX4_chargeByHours_53 (lv_at hl 1 rfl) ?_
        exact vx_ret (ze_i (u' := (n, am, S)) (z := v) hx hb hr rfl hI (by omega) ⟨⟨by omega, q7⟩, (by unfold yHours; rw [if_neg (by omega), h2, show w = yWait S x.toNat by omega]), rfl⟩ (Nat.le_of_ble_eq_true rfl) (Nat.le_of_ble_eq_true rfl) dX4_chargeByHours_55 hlocks)
      · skip
        have hra := yRate_R hcr w
        refine lv_iload hx hb dX4_chargeByHours_36 (lv_at hl 1 rfl) ?_
        refine lv_aload_n hx hb dX4_chargeByHours_38 rfl (lv_at hl 4 rfl) ?_
        refine lv_iload hx hb dX4_chargeByHours_39 (lv_at hl 0 rfl) ?_
        refine zc_i (zrV (As := [.int (iZ w)]) (rest := [.int (iZ v)]) (κ := 0) (i := 0) ⟨hx, hb, hml, hown, hts⟩ (c_X4_rateOfHour l D cA n am S H.size w hW (by omega)) (cwV 1 hts gX4_chargeByHours_X4_rateOfHour rfl rfl rfl (by decide +kernel) ⟨Nat.le_of_ble_eq_true rfl, Nat.le_of_ble_eq_true rfl⟩) hK hI hW.1.1 rfl rfl rfl hl.1 rfl (Nat.le_of_ble_eq_true rfl) dX4_chargeByHours_41 ⟨Nat.le_of_ble_eq_true rfl, Nat.le_of_ble_eq_true rfl⟩) hI (fun z16 u9 H locs hz17 hp18 hI hfr => ?_)
        clear hfr
        obtain ⟨rfl, rfl⟩ := hp18
        refine z_iadd hx hb dX4_chargeByHours_44 ?_
        refine lv_istore (lv' := [(4, .int (iZ (v + yRate S w))), (5, .int (iZ w)), (3, .int (iZ (yWait S x.toNat))), (2, .ref (am 8 x.toNat)), (0, .ref (am 0 0)), (1, .int (iZ x))]) hx hb dX4_chargeByHours_45 hl (by decide) rfl (fun ls hl => ?_)
        refine z_iinc (k := 1) (lv' := [(5, .int (iZ (w + 1))), (4, .int (iZ (v + yRate S w))), (3, .int (iZ (yWait S x.toNat))), (2, .ref (am 8 x.toNat)), (0, .ref (am 0 0)), (1, .int (iZ x))]) hx hb dX4_chargeByHours_47 hl rfl (by decide) rfl (fun ls hl => ?_)
        refine lv_goto (tgt := 30) hx hb dX4_chargeByHours_50 (by decide) ?_
        exact ih30 (v := (v + yRate S w)) (w := (w + 1)) (h1 := by omega) (h2 := by rw [yRS_s (by omega), h2]) (h3 := by omega) (hk30 := by omega) (hI := hI) (hl := lv_sub hl [0, 1, 2, 3, 4, 5] rfl)
  · skip
    refine z_iconst hx hb dX4_chargeByHours_16 ?_
    exact vx_ret (ze_i (u' := (n, am, S)) (z := 0) hx hb hr rfl hI (by omega) ⟨⟨by omega, q7⟩, (if_pos (by omega)).symm, rfl⟩ (Nat.le_of_ble_eq_true rfl) (Nat.le_of_ble_eq_true rfl) dX4_chargeByHours_17 hlocks)
set_option maxHeartbeats 4000000 in
set_option maxRecDepth 100000 in
theorem c_X4_time (l : Launch) (D : va_G) (cA : Nat → ClassId) (n : Nat → Nat) (am : ts_Am) (S : ts_St) (sz : Nat)  (hW : cW n S) : Met l yX4_time wsX4_time ({ frames := 0, cells := 0, slots := 0, locals := 0 } : Room) (va_Pc [.ref (am 0 0)] (zP TX D cA (n, am, S) sz)) (zQi TX D cA (n, am, S) sz (fun z u => z = S 0 0 10 ∧ u = (n, am, S))) 0 0 (ts_A (n, am, S) sz) := by
  refine zM_of (by decide) rfl (Nat.le_of_ble_eq_true rfl) ?_
  intro p e s m below meth c hx hb hr hts hown hlocks hml hname hK hsz H locs hI ls hl
  subst hsz
  have hown : s.vm.findClass RX4 = some m.cls := hown
  have hl : lv_has ls 1 [(0, .ref (am 0 0))] := hl
  have f81 := hts (.fieldLink RX4 81 "DockyardSlots" "now" "I") (by decide +kernel)
  have LX4 : ∀ w ∈ wsX40, w.before [.ref (am 0 0)].toArray s = true := fun w h => hts w (List.mem_cons_of_mem _ (List.mem_append_right _ h))
  have hcn := hW.cn
  have hlim := hW.lim
  refine lv_aload_n hx hb dX4_time_0 rfl (lv_at hl 0 rfl) ?_
  refine zg_i (κ := 0) (i := 0) (k := 10) hx hb LX4 hown hK hI hW.1.1 rfl rfl (by decide) rfl f81 (fun _ h9 => h9) dX4_time_1 rfl (fun b1 => ?_)
  exact (ze_i (u' := (n, am, S)) (z := S 0 0 10) hx hb hr rfl hI (by omega) ⟨rfl, rfl⟩ (Nat.le_of_ble_eq_true rfl) (Nat.le_of_ble_eq_true rfl) dX4_time_4 hlocks)
set_option maxHeartbeats 4000000 in
set_option maxRecDepth 100000 in
theorem c_X4_moves (l : Launch) (D : va_G) (cA : Nat → ClassId) (n : Nat → Nat) (am : ts_Am) (S : ts_St) (sz : Nat)  (hW : cW n S) : Met l yX4_moves wsX4_moves ({ frames := 0, cells := 0, slots := 0, locals := 0 } : Room) (va_Pc [.ref (am 0 0)] (zP TX D cA (n, am, S) sz)) (zQi TX D cA (n, am, S) sz (fun z u => z = S 0 0 11 ∧ u = (n, am, S))) 0 0 (ts_A (n, am, S) sz) := by
  refine zM_of (by decide) rfl (Nat.le_of_ble_eq_true rfl) ?_
  intro p e s m below meth c hx hb hr hts hown hlocks hml hname hK hsz H locs hI ls hl
  subst hsz
  have hown : s.vm.findClass RX4 = some m.cls := hown
  have hl : lv_has ls 1 [(0, .ref (am 0 0))] := hl
  have f161 := hts (.fieldLink RX4 161 "DockyardSlots" "moveCount" "I") (by decide +kernel)
  have LX4 : ∀ w ∈ wsX40, w.before [.ref (am 0 0)].toArray s = true := fun w h => hts w (List.mem_cons_of_mem _ (List.mem_append_right _ h))
  have hcn := hW.cn
  have hlim := hW.lim
  refine lv_aload_n hx hb dX4_moves_0 rfl (lv_at hl 0 rfl) ?_
  refine zg_i (κ := 0) (i := 0) (k := 11) hx hb LX4 hown hK hI hW.1.1 rfl rfl (by decide) rfl f161 (fun _ h9 => h9) dX4_moves_1 rfl (fun b1 => ?_)
  exact (ze_i (u' := (n, am, S)) (z := S 0 0 11) hx hb hr rfl hI (by omega) ⟨rfl, rfl⟩ (Nat.le_of_ble_eq_true rfl) (Nat.le_of_ble_eq_true rfl) dX4_moves_4 hlocks)
set_option maxHeartbeats 4000000 in
set_option maxRecDepth 100000 in
theorem c_X4_charged (l : Launch) (D : va_G) (cA : Nat → ClassId) (n : Nat → Nat) (am : ts_Am) (S : ts_St) (sz : Nat)  (hW : cW n S) : Met l yX4_charged wsX4_charged ({ frames := 0, cells := 0, slots := 0, locals := 0 } : Room) (va_Pc [.ref (am 0 0)] (zP TX D cA (n, am, S) sz)) (zQl TX D cA (n, am, S) sz (fun z u => z = S 0 0 12 ∧ u = (n, am, S))) 0 0 (ts_A (n, am, S) sz) := by
  refine zM_of (by decide) rfl (Nat.le_of_ble_eq_true rfl) ?_
  intro p e s m below meth c hx hb hr hts hown hlocks hml hname hK hsz H locs hI ls hl
  subst hsz
  have hown : s.vm.findClass RX4 = some m.cls := hown
  have hl : lv_has ls 1 [(0, .ref (am 0 0))] := hl
  have f198 := hts (.fieldLink RX4 198 "DockyardSlots" "chargedSum" "J") (by decide +kernel)
  have LX4 : ∀ w ∈ wsX40, w.before [.ref (am 0 0)].toArray s = true := fun w h => hts w (List.mem_cons_of_mem _ (List.mem_append_right _ h))
  have hcn := hW.cn
  have hlim := hW.lim
  refine lv_aload_n hx hb dX4_charged_0 rfl (lv_at hl 0 rfl) ?_
  refine zg_l (κ := 0) (i := 0) (k := 12) hx hb LX4 hown hK hI hW.1.1 rfl rfl (by decide) rfl f198 (fun _ h9 => h9) dX4_charged_1 rfl ?_
  exact (ze_l (u' := (n, am, S)) (z := S 0 0 12) hx hb hr hI ⟨rfl, rfl⟩ (Nat.le_of_ble_eq_true rfl) (Nat.le_of_ble_eq_true rfl) dX4_charged_4 hlocks)
set_option maxHeartbeats 4000000 in
set_option maxRecDepth 100000 in
theorem c_X4_arrive (l : Launch) (hfl : l.stackTraces = false) (D : va_G) (cA : Nat → ClassId) (n : Nat → Nat) (am : ts_Am) (S : ts_St) (sz : Nat) (x y : Int) (hW : cW n S) (hx0 : iR x) (hy0 : iR y) (hok : cOk n S) : vx_Met l yX4_arrive wsX4_arrive ({ frames := 7, cells := 3, slots := 18, locals := 112 } : Room) (va_Pc [.ref (am 0 0), .int (iZ x), .int (iZ y)] (zPX TX D cA (n, am, S) sz)) (zQi TX D cA (n, am, S) sz (fun z u => ((0 ≤ x ∧ x < (n 8 : Int)) ∧ (0 ≤ y ∧ y < (n 5 : Int)) ∧ S 8 x.toNat 4 = 98 ∧ ySum S (S 1 0 1).toNat < 6 ∧ yTake S y.toNat x.toNat) ∧ z = yPunc (yArr S y.toNat x.toNat) x.toNat ∧ u = (n, am, yArr S y.toNat x.toNat))) (zXX TX D cA (n, am, S) sz (fun E => (E = xN_NSE ∧ ¬ (0 ≤ x ∧ x < (n 8 : Int))) ∨ (E = xN_IOB ∧ (0 ≤ x ∧ x < (n 8 : Int)) ∧ ¬ (0 ≤ y ∧ y < (n 5 : Int))) ∨ (E = xN_ISE ∧ (0 ≤ x ∧ x < (n 8 : Int)) ∧ (0 ≤ y ∧ y < (n 5 : Int)) ∧ (¬ S 8 x.toNat 4 = 98 ∨ 6 ≤ ySum S (S 1 0 1).toNat)) ∨ (E = xN_UOE ∧ (0 ≤ x ∧ x < (n 8 : Int)) ∧ (0 ≤ y ∧ y < (n 5 : Int)) ∧ S 8 x.toNat 4 = 98 ∧ ySum S (S 1 0 1).toNat < 6 ∧ ¬ yTake S y.toNat x.toNat))) 3 18 (ts_A (n, am, S) sz) := by
  refine zMx_of (by decide) rfl (Nat.le_of_ble_eq_true rfl) ?_
  intro p e s m below meth c hx hb hr hts hown hlocks hml hex hK hG hsz H locs hI ls hl
  subst hsz
  have hown : s.vm.findClass RX4 = some m.cls := hown
  have hl : lv_has ls 5 [(0, .ref (am 0 0)), (1, .int (iZ x)), (2, .int (iZ y))] := hl
  have f10 := hts (.fieldLink RX4 10 "DockyardSlots" "lanes" "LDockyardSlots$LaneRow;") (by decide +kernel)
  have f102 := hts (.fieldLink RX4 102 "DockyardSlots$Appointment" "state" "C") (by decide +kernel)
  have f129 := hts (.fieldLink RX4 129 "DockyardSlots$Appointment" "arrivedAt" "I") (by decide +kernel)
  have f81 := hts (.fieldLink RX4 81 "DockyardSlots" "now" "I") (by decide +kernel)
  have LX0 : ∀ w ∈ wsX00, w.before [.ref (am 0 0), .int (iZ x), .int (iZ y)].toArray s = true := fun w h => hts w (List.mem_cons_of_mem _ (List.mem_append_left _ (List.mem_append_left _ (List.mem_append_left _ (List.mem_append_left _ (List.mem_append_left _ (List.mem_append_left _ (List.mem_append_left _ (List.mem_append_right _ h)))))))))
  have LX4 : ∀ w ∈ wsX40, w.before [.ref (am 0 0), .int (iZ x), .int (iZ y)].toArray s = true := fun w h => hts w (List.mem_cons_of_mem _ (List.mem_append_left _ (List.mem_append_left _ (List.mem_append_left _ (List.mem_append_left _ (List.mem_append_left _ (List.mem_append_left _ (List.mem_append_right _ h))))))))
  have hcn := hW.cn
  have hlim := hW.lim
  refine lv_aload_n hx hb dX4_arrive_0 rfl (lv_at hl 0 rfl) ?_
  refine lv_iload_n hx hb dX4_arrive_1 rfl (lv_at hl 1 rfl) ?_
  refine zxc_q (zxV (As := [.int (iZ x)]) (rest := []) (κ := 0) (i := 0) ⟨hx, hb, hml, hown, hts⟩ (c_X4_appointmentOrThrow l hfl D cA n am S H.size x hW (by omega)) (cwV 1 hts gX4_arrive_X4_appointmentOrThrow rfl rfl rfl (by decide +kernel) ⟨Nat.le_of_ble_eq_true rfl, Nat.le_of_ble_eq_true rfl⟩) hK hI hG hW.1.1 rfl rfl rfl hl.1 rfl (Nat.le_of_ble_eq_true rfl) dX4_arrive_2 ⟨Nat.le_of_ble_eq_true rfl, Nat.le_of_ble_eq_true rfl⟩) hI hex hlocks (fun E q => Or.inl q) (Nat.le_of_ble_eq_true rfl) (Nat.le_of_ble_eq_true rfl) (fun z u q => q.1.1) (fun j1 u9 H locs v2 hp3 hI => ?_)
  obtain ⟨⟨q4, q5, q6⟩, rfl⟩ := hp3
  obtain rfl : j1 = x.toNat := by omega
  have v2 : x.toNat < n 8 := v2
  refine lv_astore_n (lv' := [(3, .ref (am 8 x.toNat)), (0, .ref (am 0 0)), (1, .int (iZ x)), (2, .int (iZ y))]) hx hb dX4_arrive_5 rfl hl (by decide) rfl (fun ls hl => ?_)
  refine lv_aload_n hx hb dX4_arrive_6 rfl (lv_at hl 1 rfl) ?_
  refine lv_iload_n hx hb dX4_arrive_7 rfl (lv_at hl 3 rfl) ?_
  refine zxc_q (zxV (As := [.int (iZ y)]) (rest := []) (κ := 0) (i := 0) ⟨hx, hb, hml, hown, hts⟩ (c_X4_laneOrThrow l hfl D cA n am S H.size y hW (by omega)) (cwV 1 hts gX4_arrive_X4_laneOrThrow rfl rfl rfl (by decide +kernel) ⟨Nat.le_of_ble_eq_true rfl, Nat.le_of_ble_eq_true rfl⟩) hK hI hG hW.1.1 rfl rfl rfl hl.1 rfl (Nat.le_of_ble_eq_true rfl) dX4_arrive_8 ⟨Nat.le_of_ble_eq_true rfl, Nat.le_of_ble_eq_true rfl⟩) hI hex hlocks (fun E q => Or.inr (Or.inl ⟨q.1, by omega, q.2⟩)) (Nat.le_of_ble_eq_true rfl) (Nat.le_of_ble_eq_true rfl) (fun z u q => q.1.1) (fun j7 u9 H locs v8 hp9 hI => ?_)
  obtain ⟨⟨q10, q11, q12⟩, rfl⟩ := hp9
  obtain rfl : j7 = y.toNat := by omega
  have v8 : y.toNat < n 5 := v8
  refine lv_astore (lv' := [(4, .ref (am 5 y.toNat)), (3, .ref (am 8 x.toNat)), (0, .ref (am 0 0)), (1, .int (iZ x)), (2, .int (iZ y))]) hx hb dX4_arrive_11 hl (by decide) rfl (fun ls hl => ?_)
  refine lv_aload_n hx hb dX4_arrive_13 rfl (lv_at hl 1 rfl) ?_
  refine zg_i (κ := 8) (i := x.toNat) (k := 4) hx hb LX0 hown hK hI v2 rfl rfl (by decide) rfl f102 (fun _ h9 => h9) dX4_arrive_14 rfl (fun b13 => ?_)
  refine z_bipush hx hb dX4_arrive_17 (by decide) ?_
  refine z_icmp_eq (tgt := 32) hx hb dX4_arrive_19 (by decide) (by omega) (by omega) (fun c14 => ?_) (fun c14 => ?_)
  · skip
    refine lv_aload_n hx hb dX4_arrive_32 rfl (lv_at hl 2 rfl) ?_
    refine zg_r (κ := 0) (i := 0) (k := 0) (t := 1) (j := 0) hx hb LX4 hown hK hI hW.1.1 rfl rfl (by decide) rfl f10 (fun _ h9 => h9) dX4_arrive_33 hW.2.1.1 (fun v15 => ?_)
    refine zc_i (zrV (As := []) (rest := []) (κ := 1) (i := 0) ⟨hx, hb, hml, hown, hts⟩ (c_X3_trailerCount l D cA n am S H.size  hW hok) (cwV 0 hts gX4_arrive_X3_trailerCount rfl rfl rfl (by decide +kernel) ⟨Nat.le_of_ble_eq_true rfl, Nat.le_of_ble_eq_true rfl⟩) hK hI v15 rfl rfl rfl hl.1 rfl (Nat.le_of_ble_eq_true rfl) dX4_arrive_36 ⟨Nat.le_of_ble_eq_true rfl, Nat.le_of_ble_eq_true rfl⟩) hI (fun z16 u9 H locs hz17 hp18 hI hfr => ?_)
    clear hfr
    obtain ⟨rfl, rfl⟩ := hp18
    refine z_bipush hx hb dX4_arrive_39 (by decide) ?_
    refine z_icmp_lt (tgt := 54) hx hb dX4_arrive_41 (by decide) (by omega) (by omega) (fun c19 => ?_) (fun c19 => ?_)
    · skip
      refine lv_aload hx hb dX4_arrive_54 (lv_at hl 0 rfl) ?_
      refine lv_aload_n hx hb dX4_arrive_56 rfl (lv_at hl 1 rfl) ?_
      refine zc_i (zrV (As := [.ref (am 8 x.toNat)]) (rest := []) (κ := 5) (i := y.toNat) ⟨hx, hb, hml, hown, hts⟩ (c_X2_canTake l D cA n am S H.size y.toNat x.toNat v8 v2) (cwV 1 hts gX4_arrive_X2_canTake rfl rfl rfl (by decide +kernel) ⟨Nat.le_of_ble_eq_true rfl, Nat.le_of_ble_eq_true rfl⟩) hK hI v8 rfl rfl rfl hl.1 rfl (Nat.le_of_ble_eq_true rfl) dX4_arrive_57 ⟨Nat.le_of_ble_eq_true rfl, Nat.le_of_ble_eq_true rfl⟩) hI (fun z20 u9 H locs hz21 hp22 hI hfr => ?_)
      clear hfr
      obtain ⟨rfl, rfl⟩ := hp22
      refine z_if_ne (tgt := 73) hx hb dX4_arrive_60 (by decide) (by omega) (fun c23 => ?_) (fun c23 => ?_)
      · skip
        have c23 := zB_1 c23
        refine lv_aload hx hb dX4_arrive_73 (lv_at hl 0 rfl) ?_
        refine lv_aload_n hx hb dX4_arrive_75 rfl (lv_at hl 1 rfl) ?_
        refine zc_v (zrV (As := [.ref (am 8 x.toNat)]) (rest := []) (κ := 5) (i := y.toNat) ⟨hx, hb, hml, hown, hts⟩ (c_X2_bringIn l D cA n am S H.size y.toNat x.toNat hW v8 v2) (cwV 1 hts gX4_arrive_X2_bringIn rfl rfl rfl (by decide +kernel) ⟨Nat.le_of_ble_eq_true rfl, Nat.le_of_ble_eq_true rfl⟩) hK hI v8 rfl rfl rfl hl.1 rfl (Nat.le_of_ble_eq_true rfl) dX4_arrive_76 ⟨Nat.le_of_ble_eq_true rfl, Nat.le_of_ble_eq_true rfl⟩) hI (fun u9 H locs hp24 hI hfr => ?_)
        clear hfr
        obtain rfl := hp24
        obtain ⟨S25, eS25⟩ : ∃ z, z = yBring S y.toNat x.toNat := ⟨_, rfl⟩
        rw [← eS25] at hI
        have hW : cW n S25 := by rw [eS25]; exact yBring_W hW
        refine lv_aload_n hx hb dX4_arrive_79 rfl (lv_at hl 1 rfl) ?_
        refine z_bipush hx hb dX4_arrive_80 (by decide) ?_
        refine zp_i (κ := 8) (i := x.toNat) (k := 4) hx hb LX0 tyX0 tyX0_ok nmX0 hown hK hI v2 rfl rfl (by decide) rfl f102 (fun _ h9 => h9) rfl (iZ_narc (by omega) (by omega)).1 (iZ_narc (by omega) (by omega)).2 (by omega) dX4_arrive_82 (fun H locs hI => ?_)
        obtain ⟨S26, eS26⟩ : ∃ z, z = up3 S25 8 x.toNat 4 121 := ⟨_, rfl⟩
        rw [← eS26] at hI
        have hW : cW n S26 := by rw [eS26]; exact hW.put rfl
        refine lv_aload_n hx hb dX4_arrive_85 rfl (lv_at hl 1 rfl) ?_
        refine lv_aload_n hx hb dX4_arrive_86 rfl (lv_at hl 2 rfl) ?_
        refine zg_i (κ := 0) (i := 0) (k := 10) hx hb LX4 hown hK hI hW.1.1 rfl rfl (by decide) rfl f81 (fun _ h9 => h9) dX4_arrive_87 (by rw [eS26, up3_n (by omega), eS25, yBring_n (by omega)]) (fun b27 => ?_)
        refine zp_i (κ := 8) (i := x.toNat) (k := 5) hx hb LX0 tyX0 tyX0_ok nmX0 hown hK hI v2 rfl rfl (by decide) rfl f129 (fun _ h9 => h9) rfl rfl rfl (by omega) dX4_arrive_90 (fun H locs hI => ?_)
        obtain ⟨S28, eS28⟩ : ∃ z, z = up3 S26 8 x.toNat 5 (S 0 0 10) := ⟨_, rfl⟩
        rw [← eS28] at hI
        have hW : cW n S28 := by rw [eS28]; exact hW.put rfl
        refine lv_aload_n hx hb dX4_arrive_93 rfl (lv_at hl 2 rfl) ?_
        refine lv_aload_n hx hb dX4_arrive_94 rfl (lv_at hl 1 rfl) ?_
        refine zc_i (zrV (As := [.ref (am 8 x.toNat)]) (rest := []) (κ := 0) (i := 0) ⟨hx, hb, hml, hown, hts⟩ (c_X4_punctualityOf l D cA n am S28 H.size x.toNat hW v2) (cwV 1 hts gX4_arrive_X4_punctualityOf rfl rfl rfl (by decide +kernel) ⟨Nat.le_of_ble_eq_true rfl, Nat.le_of_ble_eq_true rfl⟩) hK hI hW.1.1 rfl rfl rfl hl.1 rfl (Nat.le_of_ble_eq_true rfl) dX4_arrive_95 ⟨Nat.le_of_ble_eq_true rfl, Nat.le_of_ble_eq_true rfl⟩) hI (fun z29 u9 H locs hz30 hp31 hI hfr => ?_)
        clear hfr
        obtain ⟨rfl, rfl⟩ := hp31
        exact vx_ret (ze_i (u' := (n, am, S28)) (z := yPunc S28 x.toNat) hx hb hr (iZ_narc (by have := yPunc_R S28 x.toNat; omega) (by have := yPunc_R S28 x.toNat; omega)).1 hI (by have := yPunc_R S28 x.toNat; omega) ⟨⟨by omega, by omega, by omega, by omega, c23⟩, by rw [eS28, eS26, eS25]; rfl, by rw [eS28, eS26, eS25]; rfl⟩ (Nat.le_of_ble_eq_true rfl) (Nat.le_of_ble_eq_true rfl) dX4_arrive_98 hlocks)
      · skip
        have c23 := zB_0 c23
        exact zx_throw (text := "the trailer cannot come into the lane") hx hb hfl hown hG hI xC_UOE xF_UOE (hts _ (by decide +kernel)) (hts _ (by decide +kernel)) (fun w h => hts w (List.mem_cons_of_mem _ (List.mem_append_left _ (List.mem_append_left _ (List.mem_append_right _ h))))) xA_UOE xO_UOE (by decide +kernel) (by rw [hml]; exact hl.1) dX4_arrive_63 dX4_arrive_66 dX4_arrive_67 dX4_arrive_69 dX4_arrive_72 hex (Nat.le_of_ble_eq_true rfl) (Nat.le_of_ble_eq_true rfl) (Nat.le_of_ble_eq_true rfl) (Nat.le_of_ble_eq_true rfl) hlocks (Or.inr (Or.inr (Or.inr (⟨rfl, by omega, by omega, by omega, by omega, c23⟩)))) (Nat.le_of_ble_eq_true rfl) (Nat.le_of_ble_eq_true rfl)
    · skip
      exact zx_throw (text := "there are 6 trailers in lanes") hx hb hfl hown hG hI xC_ISE xF_ISE (hts _ (by decide +kernel)) (hts _ (by decide +kernel)) (fun w h => hts w (List.mem_cons_of_mem _ (List.mem_append_left _ (List.mem_append_left _ (List.mem_append_left _ (List.mem_append_right _ h)))))) xA_ISE xO_ISE (by decide +kernel) (by rw [hml]; exact hl.1) dX4_arrive_44 dX4_arrive_47 dX4_arrive_48 dX4_arrive_50 dX4_arrive_53 hex (Nat.le_of_ble_eq_true rfl) (Nat.le_of_ble_eq_true rfl) (Nat.le_of_ble_eq_true rfl) (Nat.le_of_ble_eq_true rfl) hlocks (Or.inr (Or.inr (Or.inl (⟨rfl, by omega, by omega, by omega⟩)))) (Nat.le_of_ble_eq_true rfl) (Nat.le_of_ble_eq_true rfl)
  · skip
    exact zx_throw (text := "the appointment is not booked") hx hb hfl hown hG hI xC_ISE xF_ISE (hts _ (by decide +kernel)) (hts _ (by decide +kernel)) (fun w h => hts w (List.mem_cons_of_mem _ (List.mem_append_left _ (List.mem_append_left _ (List.mem_append_left _ (List.mem_append_right _ h)))))) xA_ISE xO_ISE (by decide +kernel) (by rw [hml]; exact hl.1) dX4_arrive_22 dX4_arrive_25 dX4_arrive_26 dX4_arrive_28 dX4_arrive_31 hex (Nat.le_of_ble_eq_true rfl) (Nat.le_of_ble_eq_true rfl) (Nat.le_of_ble_eq_true rfl) (Nat.le_of_ble_eq_true rfl) hlocks (Or.inr (Or.inr (Or.inl (⟨rfl, by omega, by omega, by omega⟩)))) (Nat.le_of_ble_eq_true rfl) (Nat.le_of_ble_eq_true rfl)
set_option maxHeartbeats 4000000 in
set_option maxRecDepth 100000 in
theorem c_X4_shift (l : Launch) (hfl : l.stackTraces = false) (D : va_G) (cA : Nat → ClassId) (n : Nat → Nat) (am : ts_Am) (S : ts_St) (sz : Nat) (x y : Int) (hW : cW n S) (hx0 : iR x) (hy0 : iR y) (hcr : cR n S) : vx_Met l yX4_shift wsX4_shift ({ frames := 8, cells := 5, slots := 30, locals := 132 } : Room) (va_Pc [.ref (am 0 0), .int (iZ x), .int (iZ y)] (zPX TX D cA (n, am, S) sz)) (zQi TX D cA (n, am, S) sz (fun z u => ((0 ≤ x ∧ x < (n 8 : Int)) ∧ (0 ≤ y ∧ y < (n 5 : Int)) ∧ (0 ≤ S 8 x.toNat 7 ∧ yBefore S (S 8 x.toNat 7).toNat x.toNat = 0) ∧ ¬ S 8 x.toNat 7 = y ∧ yTake S y.toNat x.toNat) ∧ z = S 0 0 11 + 1 ∧ u = (n, am, yShift S (S 8 x.toNat 7).toNat y.toNat x.toNat))) (zXX TX D cA (n, am, S) sz (fun E => (E = xN_NSE ∧ ¬ (0 ≤ x ∧ x < (n 8 : Int))) ∨ (E = xN_IOB ∧ (0 ≤ x ∧ x < (n 8 : Int)) ∧ ¬ (0 ≤ y ∧ y < (n 5 : Int))) ∨ (E = xN_ISE ∧ (0 ≤ x ∧ x < (n 8 : Int)) ∧ (0 ≤ y ∧ y < (n 5 : Int)) ∧ ¬ (0 ≤ S 8 x.toNat 7 ∧ yBefore S (S 8 x.toNat 7).toNat x.toNat = 0)) ∨ (E = xN_UOE ∧ (0 ≤ x ∧ x < (n 8 : Int)) ∧ (0 ≤ y ∧ y < (n 5 : Int)) ∧ (0 ≤ S 8 x.toNat 7 ∧ yBefore S (S 8 x.toNat 7).toNat x.toNat = 0) ∧ (S 8 x.toNat 7 = y ∨ ¬ yTake S y.toNat x.toNat)))) 5 30 (ts_A (n, am, S) sz) := by
  refine zMx_of (by decide) rfl (Nat.le_of_ble_eq_true rfl) ?_
  intro p e s m below meth c hx hb hr hts hown hlocks hml hex hK hG hsz H locs hI ls hl
  subst hsz
  have hown : s.vm.findClass RX4 = some m.cls := hown
  have hl : lv_has ls 6 [(0, .ref (am 0 0)), (1, .int (iZ x)), (2, .int (iZ y))] := hl
  have f154 := hts (.fieldLink RX4 154 "DockyardSlots$Lane" "number" "I") (by decide +kernel)
  have f161 := hts (.fieldLink RX4 161 "DockyardSlots" "moveCount" "I") (by decide +kernel)
  have LX2 : ∀ w ∈ wsX20, w.before [.ref (am 0 0), .int (iZ x), .int (iZ y)].toArray s = true := fun w h => hts w (List.mem_cons_of_mem _ (List.mem_append_left _ (List.mem_append_left _ (List.mem_append_left _ (List.mem_append_left _ (List.mem_append_left _ (List.mem_append_left _ (List.mem_append_left _ (List.mem_append_right _ h)))))))))
  have LX4 : ∀ w ∈ wsX40, w.before [.ref (am 0 0), .int (iZ x), .int (iZ y)].toArray s = true := fun w h => hts w (List.mem_cons_of_mem _ (List.mem_append_left _ (List.mem_append_left _ (List.mem_append_left _ (List.mem_append_left _ (List.mem_append_left _ (List.mem_append_left _ (List.mem_append_right _ h))))))))
  have hcn := hW.cn
  have hlim := hW.lim
  have hcr1 := hcr.1
  refine lv_aload_n hx hb dX4_shift_0 rfl (lv_at hl 0 rfl) ?_
  refine lv_iload_n hx hb dX4_shift_1 rfl (lv_at hl 1 rfl) ?_
  refine zxc_q (zxV (As := [.int (iZ x)]) (rest := []) (κ := 0) (i := 0) ⟨hx, hb, hml, hown, hts⟩ (c_X4_appointmentOrThrow l hfl D cA n am S H.size x hW (by omega)) (cwV 1 hts gX4_shift_X4_appointmentOrThrow rfl rfl rfl (by decide +kernel) ⟨Nat.le_of_ble_eq_true rfl, Nat.le_of_ble_eq_true rfl⟩) hK hI hG hW.1.1 rfl rfl rfl hl.1 rfl (Nat.le_of_ble_eq_true rfl) dX4_shift_2 ⟨Nat.le_of_ble_eq_true rfl, Nat.le_of_ble_eq_true rfl⟩) hI hex hlocks (fun E q => Or.inl q) (Nat.le_of_ble_eq_true rfl) (Nat.le_of_ble_eq_true rfl) (fun z u q => q.1.1) (fun j1 u9 H locs v2 hp3 hI => ?_)
  obtain ⟨⟨q4, q5, q6⟩, rfl⟩ := hp3
  obtain rfl : j1 = x.toNat := by omega
  have v2 : x.toNat < n 8 := v2
  refine lv_astore_n (lv' := [(3, .ref (am 8 x.toNat)), (0, .ref (am 0 0)), (1, .int (iZ x)), (2, .int (iZ y))]) hx hb dX4_shift_5 rfl hl (by decide) rfl (fun ls hl => ?_)
  refine lv_aload_n hx hb dX4_shift_6 rfl (lv_at hl 1 rfl) ?_
  refine lv_iload_n hx hb dX4_shift_7 rfl (lv_at hl 3 rfl) ?_
  refine zxc_q (zxV (As := [.int (iZ y)]) (rest := []) (κ := 0) (i := 0) ⟨hx, hb, hml, hown, hts⟩ (c_X4_laneOrThrow l hfl D cA n am S H.size y hW (by omega)) (cwV 1 hts gX4_shift_X4_laneOrThrow rfl rfl rfl (by decide +kernel) ⟨Nat.le_of_ble_eq_true rfl, Nat.le_of_ble_eq_true rfl⟩) hK hI hG hW.1.1 rfl rfl rfl hl.1 rfl (Nat.le_of_ble_eq_true rfl) dX4_shift_8 ⟨Nat.le_of_ble_eq_true rfl, Nat.le_of_ble_eq_true rfl⟩) hI hex hlocks (fun E q => Or.inr (Or.inl ⟨q.1, by omega, q.2⟩)) (Nat.le_of_ble_eq_true rfl) (Nat.le_of_ble_eq_true rfl) (fun z u q => q.1.1) (fun j7 u9 H locs v8 hp9 hI => ?_)
  obtain ⟨⟨q10, q11, q12⟩, rfl⟩ := hp9
  obtain rfl : j7 = y.toNat := by omega
  have v8 : y.toNat < n 5 := v8
  refine lv_astore (lv' := [(4, .ref (am 5 y.toNat)), (3, .ref (am 8 x.toNat)), (0, .ref (am 0 0)), (1, .int (iZ x)), (2, .int (iZ y))]) hx hb dX4_shift_11 hl (by decide) rfl (fun ls hl => ?_)
  refine lv_aload_n hx hb dX4_shift_13 rfl (lv_at hl 1 rfl) ?_
  refine zxc_q (zxS (As := [.ref (am 8 x.toNat)]) (rest := []) ⟨hx, hb, hml, hown, hts⟩ (c_X4_homeOfReachedOrThrow l hfl D cA n am S H.size x.toNat hW v2) (va_cwS 1 hts gX4_shift_X4_homeOfReachedOrThrow rfl rfl rfl (by decide +kernel) ⟨Nat.le_of_ble_eq_true rfl, Nat.le_of_ble_eq_true rfl⟩) hK hI hG rfl hl.1 rfl (Nat.le_of_ble_eq_true rfl) dX4_shift_14 ⟨Nat.le_of_ble_eq_true rfl, Nat.le_of_ble_eq_true rfl⟩) hI hex hlocks (fun E q => Or.inr (Or.inr (Or.inl ⟨q.1, by omega, by omega, q.2⟩))) (Nat.le_of_ble_eq_true rfl) (Nat.le_of_ble_eq_true rfl) (fun z u q => q.1.1) (fun j13 u9 H locs v14 hp15 hI => ?_)
  obtain ⟨⟨q16, q17, q18⟩, rfl⟩ := hp15
  obtain rfl : j13 = (S 8 x.toNat 7).toNat := by omega
  have v14 : (S 8 x.toNat 7).toNat < n 5 := v14
  refine lv_astore (lv' := [(5, .ref (am 5 ((S 8 x.toNat 7).toNat))), (4, .ref (am 5 y.toNat)), (3, .ref (am 8 x.toNat)), (0, .ref (am 0 0)), (1, .int (iZ x)), (2, .int (iZ y))]) hx hb dX4_shift_17 hl (by decide) rfl (fun ls hl => ?_)
  have hln := hW.ln (k := y.toNat) (by omega)
  have hlh := hW.ln (k := (S 8 x.toNat 7).toNat) (by omega)
  refine lv_aload hx hb dX4_shift_19 (lv_at hl 0 rfl) ?_
  refine zg_i (κ := 5) (i := ((S 8 x.toNat 7).toNat)) (k := 0) hx hb LX2 hown hK hI v14 rfl rfl (by decide) rfl f154 (fun _ h9 => h9) dX4_shift_21 rfl (fun b19 => ?_)
  refine lv_aload hx hb dX4_shift_24 (lv_at hl 1 rfl) ?_
  refine zg_i (κ := 5) (i := y.toNat) (k := 0) hx hb LX2 hown hK hI v8 rfl rfl (by decide) rfl f154 (fun _ h9 => h9) dX4_shift_26 rfl (fun b20 => ?_)
  refine z_icmp_ne (tgt := 42) hx hb dX4_shift_29 (by decide) (by omega) (by omega) (fun c21 => ?_) (fun c21 => ?_)
  · skip
    refine lv_aload hx hb dX4_shift_42 (lv_at hl 1 rfl) ?_
    refine lv_aload_n hx hb dX4_shift_44 rfl (lv_at hl 2 rfl) ?_
    refine zc_i (zrV (As := [.ref (am 8 x.toNat)]) (rest := []) (κ := 5) (i := y.toNat) ⟨hx, hb, hml, hown, hts⟩ (c_X2_canTake l D cA n am S H.size y.toNat x.toNat v8 v2) (cwV 1 hts gX4_shift_X2_canTake rfl rfl rfl (by decide +kernel) ⟨Nat.le_of_ble_eq_true rfl, Nat.le_of_ble_eq_true rfl⟩) hK hI v8 rfl rfl rfl hl.1 rfl (Nat.le_of_ble_eq_true rfl) dX4_shift_45 ⟨Nat.le_of_ble_eq_true rfl, Nat.le_of_ble_eq_true rfl⟩) hI (fun z22 u9 H locs hz23 hp24 hI hfr => ?_)
    clear hfr
    obtain ⟨rfl, rfl⟩ := hp24
    refine z_if_ne (tgt := 61) hx hb dX4_shift_48 (by decide) (by omega) (fun c25 => ?_) (fun c25 => ?_)
    · skip
      have c25 := zB_1 c25
      refine lv_aload hx hb dX4_shift_61 (lv_at hl 0 rfl) ?_
      refine zc_q (zrV (As := []) (rest := []) (κ := 5) (i := ((S 8 x.toNat 7).toNat)) ⟨hx, hb, hml, hown, hts⟩ (c_X2_takeOut l D cA n am S H.size ((S 8 x.toNat 7).toNat) hW v14) (cwV 0 hts gX4_shift_X2_takeOut rfl rfl rfl (by decide +kernel) ⟨Nat.le_of_ble_eq_true rfl, Nat.le_of_ble_eq_true rfl⟩) hK hI v14 rfl rfl rfl hl.1 rfl (Nat.le_of_ble_eq_true rfl) dX4_shift_63 ⟨Nat.le_of_ble_eq_true rfl, Nat.le_of_ble_eq_true rfl⟩) hI (fun u9 H locs hp28 hI hfr => ?_) (fun j29 u9 H locs v30 hp28 hI hfr => ?_)
      · clear hfr
        obtain ⟨ez26, rfl⟩ := hp28
        obtain ⟨S31, eS31⟩ : ∃ z, z = yTakeOut S ((S 8 x.toNat 7).toNat) := ⟨_, rfl⟩
        rw [← eS31] at hI
        have hW : cW n S31 := by rw [eS31]; exact yTakeOut_W hW
        refine lv_pop hx hb dX4_shift_66 rfl ?_
        refine lv_aload hx hb dX4_shift_67 (lv_at hl 1 rfl) ?_
        refine lv_aload_n hx hb dX4_shift_69 rfl (lv_at hl 2 rfl) ?_
        refine zc_v (zrV (As := [.ref (am 8 x.toNat)]) (rest := []) (κ := 5) (i := y.toNat) ⟨hx, hb, hml, hown, hts⟩ (c_X2_bringIn l D cA n am S31 H.size y.toNat x.toNat hW v8 v2) (cwV 1 hts gX4_shift_X2_bringIn rfl rfl rfl (by decide +kernel) ⟨Nat.le_of_ble_eq_true rfl, Nat.le_of_ble_eq_true rfl⟩) hK hI v8 rfl rfl rfl hl.1 rfl (Nat.le_of_ble_eq_true rfl) dX4_shift_70 ⟨Nat.le_of_ble_eq_true rfl, Nat.le_of_ble_eq_true rfl⟩) hI (fun u9 H locs hp32 hI hfr => ?_)
        clear hfr
        obtain rfl := hp32
        obtain ⟨S33, eS33⟩ : ∃ z, z = yBring S31 y.toNat x.toNat := ⟨_, rfl⟩
        rw [← eS33] at hI
        have hW : cW n S33 := by rw [eS33]; exact yBring_W hW
        refine lv_aload_n hx hb dX4_shift_73 rfl (lv_at hl 3 rfl) ?_
        refine lv_dup hx hb dX4_shift_74 rfl ?_
        refine zg_i (κ := 0) (i := 0) (k := 11) hx hb LX4 hown hK hI hW.1.1 rfl rfl (by decide) rfl f161 (fun _ h9 => h9) dX4_shift_75 (by rw [eS33, yBring_n (by omega), eS31, yTakeOut_n (by omega)]) (fun b34 => ?_)
        refine z_iconst hx hb dX4_shift_78 ?_
        refine z_iadd hx hb dX4_shift_79 ?_
        refine zp_i (κ := 0) (i := 0) (k := 11) hx hb LX4 tyX4 tyX4_ok nmX4 hown hK hI hW.1.1 rfl rfl (by decide) rfl f161 (fun _ h9 => h9) rfl rfl rfl (by omega) dX4_shift_80 (fun H locs hI => ?_)
        obtain ⟨S35, eS35⟩ : ∃ z, z = up3 S33 0 0 11 (S 0 0 11 + 1) := ⟨_, rfl⟩
        rw [← eS35] at hI
        have hW : cW n S35 := by rw [eS35]; exact hW.put rfl
        refine lv_aload_n hx hb dX4_shift_83 rfl (lv_at hl 3 rfl) ?_
        refine zg_i (κ := 0) (i := 0) (k := 11) hx hb LX4 hown hK hI hW.1.1 rfl rfl (by decide) rfl f161 (fun _ h9 => h9) dX4_shift_84 (by rw [eS35, up3_s]) (fun b36 => ?_)
        exact vx_ret (ze_i (u' := (n, am, S35)) (z := (S 0 0 11 + 1)) hx hb hr rfl hI (by omega) ⟨⟨by omega, by omega, by omega, by omega, c25⟩, rfl, by rw [eS35, eS33, eS31]; rfl⟩ (Nat.le_of_ble_eq_true rfl) (Nat.le_of_ble_eq_true rfl) dX4_shift_87 hlocks)
      · clear hfr
        obtain ⟨ej29, rfl⟩ := hp28
        have v30 : j29 < n 8 := v30
        obtain ⟨S37, eS37⟩ : ∃ z, z = yTakeOut S ((S 8 x.toNat 7).toNat) := ⟨_, rfl⟩
        rw [← eS37] at hI
        have hW : cW n S37 := by rw [eS37]; exact yTakeOut_W hW
        refine lv_pop hx hb dX4_shift_66 rfl ?_
        refine lv_aload hx hb dX4_shift_67 (lv_at hl 1 rfl) ?_
        refine lv_aload_n hx hb dX4_shift_69 rfl (lv_at hl 2 rfl) ?_
        refine zc_v (zrV (As := [.ref (am 8 x.toNat)]) (rest := []) (κ := 5) (i := y.toNat) ⟨hx, hb, hml, hown, hts⟩ (c_X2_bringIn l D cA n am S37 H.size y.toNat x.toNat hW v8 v2) (cwV 1 hts gX4_shift_X2_bringIn rfl rfl rfl (by decide +kernel) ⟨Nat.le_of_ble_eq_true rfl, Nat.le_of_ble_eq_true rfl⟩) hK hI v8 rfl rfl rfl hl.1 rfl (Nat.le_of_ble_eq_true rfl) dX4_shift_70 ⟨Nat.le_of_ble_eq_true rfl, Nat.le_of_ble_eq_true rfl⟩) hI (fun u9 H locs hp38 hI hfr => ?_)
        clear hfr
        obtain rfl := hp38
        obtain ⟨S39, eS39⟩ : ∃ z, z = yBring S37 y.toNat x.toNat := ⟨_, rfl⟩
        rw [← eS39] at hI
        have hW : cW n S39 := by rw [eS39]; exact yBring_W hW
        refine lv_aload_n hx hb dX4_shift_73 rfl (lv_at hl 3 rfl) ?_
        refine lv_dup hx hb dX4_shift_74 rfl ?_
        refine zg_i (κ := 0) (i := 0) (k := 11) hx hb LX4 hown hK hI hW.1.1 rfl rfl (by decide) rfl f161 (fun _ h9 => h9) dX4_shift_75 (by rw [eS39, yBring_n (by omega), eS37, yTakeOut_n (by omega)]) (fun b40 => ?_)
        refine z_iconst hx hb dX4_shift_78 ?_
        refine z_iadd hx hb dX4_shift_79 ?_
        refine zp_i (κ := 0) (i := 0) (k := 11) hx hb LX4 tyX4 tyX4_ok nmX4 hown hK hI hW.1.1 rfl rfl (by decide) rfl f161 (fun _ h9 => h9) rfl rfl rfl (by omega) dX4_shift_80 (fun H locs hI => ?_)
        obtain ⟨S41, eS41⟩ : ∃ z, z = up3 S39 0 0 11 (S 0 0 11 + 1) := ⟨_, rfl⟩
        rw [← eS41] at hI
        have hW : cW n S41 := by rw [eS41]; exact hW.put rfl
        refine lv_aload_n hx hb dX4_shift_83 rfl (lv_at hl 3 rfl) ?_
        refine zg_i (κ := 0) (i := 0) (k := 11) hx hb LX4 hown hK hI hW.1.1 rfl rfl (by decide) rfl f161 (fun _ h9 => h9) dX4_shift_84 (by rw [eS41, up3_s]) (fun b42 => ?_)
        exact vx_ret (ze_i (u' := (n, am, S41)) (z := (S 0 0 11 + 1)) hx hb hr rfl hI (by omega) ⟨⟨by omega, by omega, by omega, by omega, c25⟩, rfl, by rw [eS41, eS39, eS37]; rfl⟩ (Nat.le_of_ble_eq_true rfl) (Nat.le_of_ble_eq_true rfl) dX4_shift_87 hlocks)
    · skip
      have c25 := zB_0 c25
      exact zx_throw (text := "the trailer cannot come into the lane") hx hb hfl hown hG hI xC_UOE xF_UOE (hts _ (by decide +kernel)) (hts _ (by decide +kernel)) (fun w h => hts w (List.mem_cons_of_mem _ (List.mem_append_left _ (List.mem_append_left _ (List.mem_append_left _ (List.mem_append_right _ h)))))) xA_UOE xO_UOE (by decide +kernel) (by rw [hml]; exact hl.1) dX4_shift_51 dX4_shift_54 dX4_shift_55 dX4_shift_57 dX4_shift_60 hex (Nat.le_of_ble_eq_true rfl) (Nat.le_of_ble_eq_true rfl) (Nat.le_of_ble_eq_true rfl) (Nat.le_of_ble_eq_true rfl) hlocks (Or.inr (Or.inr (Or.inr (⟨rfl, by omega, by omega, by omega, Or.inr c25⟩)))) (Nat.le_of_ble_eq_true rfl) (Nat.le_of_ble_eq_true rfl)
  · skip
    exact zx_throw (text := "the trailer is in this lane") hx hb hfl hown hG hI xC_UOE xF_UOE (hts _ (by decide +kernel)) (hts _ (by decide +kernel)) (fun w h => hts w (List.mem_cons_of_mem _ (List.mem_append_left _ (List.mem_append_left _ (List.mem_append_left _ (List.mem_append_right _ h)))))) xA_UOE xO_UOE (by decide +kernel) (by rw [hml]; exact hl.1) dX4_shift_32 dX4_shift_35 dX4_shift_36 dX4_shift_38 dX4_shift_41 hex (Nat.le_of_ble_eq_true rfl) (Nat.le_of_ble_eq_true rfl) (Nat.le_of_ble_eq_true rfl) (Nat.le_of_ble_eq_true rfl) hlocks (Or.inr (Or.inr (Or.inr (⟨rfl, by omega, by omega, by omega, Or.inl (by omega)⟩)))) (Nat.le_of_ble_eq_true rfl) (Nat.le_of_ble_eq_true rfl)
set_option maxHeartbeats 4000000 in
set_option maxRecDepth 100000 in
theorem c_X4_dock (l : Launch) (hfl : l.stackTraces = false) (D : va_G) (cA : Nat → ClassId) (n : Nat → Nat) (am : ts_Am) (S : ts_St) (sz : Nat) (x d : Int) (hW : cW n S) (hx0 : iR x) (hd0 : iR d) (hcr : cR n S) : vx_Met l yX4_dock wsX4_dock ({ frames := 8, cells := 4, slots := 24, locals := 132 } : Room) (va_Pc [.ref (am 0 0), .int (iZ x), .int (iZ d)] (zPX TX D cA (n, am, S) sz)) (zQi TX D cA (n, am, S) sz (fun z u => ((0 ≤ x ∧ x < (n 8 : Int)) ∧ (0 ≤ d ∧ d < (n 7 : Int)) ∧ (0 ≤ S 8 x.toNat 7 ∧ yBefore S (S 8 x.toNat 7).toNat x.toNat = 0) ∧ yServe S d.toNat x.toNat) ∧ z = yDock S (S 8 x.toNat 7).toNat d.toNat x.toNat 8 x.toNat 6 + yDock S (S 8 x.toNat 7).toNat d.toNat x.toNat 8 x.toNat 3 ∧ u = (n, am, yDock S (S 8 x.toNat 7).toNat d.toNat x.toNat))) (zXX TX D cA (n, am, S) sz (fun E => (E = xN_NSE ∧ ¬ (0 ≤ x ∧ x < (n 8 : Int))) ∨ (E = xN_IOB ∧ (0 ≤ x ∧ x < (n 8 : Int)) ∧ ¬ (0 ≤ d ∧ d < (n 7 : Int))) ∨ (E = xN_ISE ∧ (0 ≤ x ∧ x < (n 8 : Int)) ∧ (0 ≤ d ∧ d < (n 7 : Int)) ∧ ¬ (0 ≤ S 8 x.toNat 7 ∧ yBefore S (S 8 x.toNat 7).toNat x.toNat = 0)) ∨ (E = xN_UOE ∧ (0 ≤ x ∧ x < (n 8 : Int)) ∧ (0 ≤ d ∧ d < (n 7 : Int)) ∧ (0 ≤ S 8 x.toNat 7 ∧ yBefore S (S 8 x.toNat 7).toNat x.toNat = 0) ∧ ¬ yServe S d.toNat x.toNat))) 4 24 (ts_A (n, am, S) sz) := by
  refine zMx_of (by decide) rfl (Nat.le_of_ble_eq_true rfl) ?_
  intro p e s m below meth c hx hb hr hts hown hlocks hml hex hK hG hsz H locs hI ls hl
  subst hsz
  have hown : s.vm.findClass RX4 = some m.cls := hown
  have hl : lv_has ls 6 [(0, .ref (am 0 0)), (1, .int (iZ x)), (2, .int (iZ d))] := hl
  have f102 := hts (.fieldLink RX4 102 "DockyardSlots$Appointment" "state" "C") (by decide +kernel)
  have f161 := hts (.fieldLink RX4 161 "DockyardSlots" "moveCount" "I") (by decide +kernel)
  have f176 := hts (.fieldLink RX4 176 "DockyardSlots$Door" "isUsed" "Z") (by decide +kernel)
  have f180 := hts (.fieldLink RX4 180 "DockyardSlots$Appointment" "door" "LDockyardSlots$Door;") (by decide +kernel)
  have f184 := hts (.fieldLink RX4 184 "DockyardSlots$Appointment" "dockedAt" "I") (by decide +kernel)
  have f81 := hts (.fieldLink RX4 81 "DockyardSlots" "now" "I") (by decide +kernel)
  have LX0 : ∀ w ∈ wsX00, w.before [.ref (am 0 0), .int (iZ x), .int (iZ d)].toArray s = true := fun w h => hts w (List.mem_cons_of_mem _ (List.mem_append_left _ (List.mem_append_left _ (List.mem_append_left _ (List.mem_append_left _ (List.mem_append_left _ (List.mem_append_left _ (List.mem_append_right _ h))))))))
  have LX1 : ∀ w ∈ wsX10, w.before [.ref (am 0 0), .int (iZ x), .int (iZ d)].toArray s = true := fun w h => hts w (List.mem_cons_of_mem _ (List.mem_append_left _ (List.mem_append_left _ (List.mem_append_left _ (List.mem_append_left _ (List.mem_append_left _ (List.mem_append_left _ (List.mem_append_left _ (List.mem_append_right _ h)))))))))
  have LX4 : ∀ w ∈ wsX40, w.before [.ref (am 0 0), .int (iZ x), .int (iZ d)].toArray s = true := fun w h => hts w (List.mem_cons_of_mem _ (List.mem_append_left _ (List.mem_append_left _ (List.mem_append_left _ (List.mem_append_left _ (List.mem_append_left _ (List.mem_append_right _ h)))))))
  have hcn := hW.cn
  have hlim := hW.lim
  have hcr1 := hcr.1
  refine lv_aload_n hx hb dX4_dock_0 rfl (lv_at hl 0 rfl) ?_
  refine lv_iload_n hx hb dX4_dock_1 rfl (lv_at hl 1 rfl) ?_
  refine zxc_q (zxV (As := [.int (iZ x)]) (rest := []) (κ := 0) (i := 0) ⟨hx, hb, hml, hown, hts⟩ (c_X4_appointmentOrThrow l hfl D cA n am S H.size x hW (by omega)) (cwV 1 hts gX4_dock_X4_appointmentOrThrow rfl rfl rfl (by decide +kernel) ⟨Nat.le_of_ble_eq_true rfl, Nat.le_of_ble_eq_true rfl⟩) hK hI hG hW.1.1 rfl rfl rfl hl.1 rfl (Nat.le_of_ble_eq_true rfl) dX4_dock_2 ⟨Nat.le_of_ble_eq_true rfl, Nat.le_of_ble_eq_true rfl⟩) hI hex hlocks (fun E q => Or.inl q) (Nat.le_of_ble_eq_true rfl) (Nat.le_of_ble_eq_true rfl) (fun z u q => q.1.1) (fun j1 u9 H locs v2 hp3 hI => ?_)
  obtain ⟨⟨q4, q5, q6⟩, rfl⟩ := hp3
  obtain rfl : j1 = x.toNat := by omega
  have v2 : x.toNat < n 8 := v2
  refine lv_astore_n (lv' := [(3, .ref (am 8 x.toNat)), (0, .ref (am 0 0)), (1, .int (iZ x)), (2, .int (iZ d))]) hx hb dX4_dock_5 rfl hl (by decide) rfl (fun ls hl => ?_)
  refine lv_aload_n hx hb dX4_dock_6 rfl (lv_at hl 1 rfl) ?_
  refine lv_iload_n hx hb dX4_dock_7 rfl (lv_at hl 3 rfl) ?_
  refine zc_q (zrV (As := [.int (iZ d)]) (rest := []) (κ := 0) (i := 0) ⟨hx, hb, hml, hown, hts⟩ (c_X4_doorAt l D cA n am S H.size d hW (by omega)) (cwV 1 hts gX4_dock_X4_doorAt rfl rfl rfl (by decide +kernel) ⟨Nat.le_of_ble_eq_true rfl, Nat.le_of_ble_eq_true rfl⟩) hK hI hW.1.1 rfl rfl rfl hl.1 rfl (Nat.le_of_ble_eq_true rfl) dX4_dock_8 ⟨Nat.le_of_ble_eq_true rfl, Nat.le_of_ble_eq_true rfl⟩) hI (fun u9 H locs hp9 hI hfr => ?_) (fun j10 u9 H locs v11 hp9 hI hfr => ?_)
  · clear hfr
    obtain ⟨ez7, rfl⟩ := hp9
    have hd12 : ¬ (0 ≤ d ∧ d < (n 7 : Int)) := fun q => by rw [if_pos q] at ez7; omega
    refine lv_astoreN (lv' := [(4, .null), (3, .ref (am 8 x.toNat)), (0, .ref (am 0 0)), (1, .int (iZ x)), (2, .int (iZ d))]) hx hb dX4_dock_11 hl (by decide) rfl (fun ls hl => ?_)
    refine lv_aloadN hx hb dX4_dock_13 (lv_at hl 0 rfl) ?_
    refine lv_ifnonnullN hx hb dX4_dock_15 ?_
    exact zx_throw (text := "there is no such door") hx hb hfl hown hG hI xC_IOB xF_IOB (hts _ (by decide +kernel)) (hts _ (by decide +kernel)) (fun w h => hts w (List.mem_cons_of_mem _ (List.mem_append_left _ (List.mem_append_left _ (List.mem_append_left _ (List.mem_append_right _ h)))))) xA_IOB xO_IOB (by decide +kernel) (by rw [hml]; exact hl.1) dX4_dock_18 dX4_dock_21 dX4_dock_22 dX4_dock_24 dX4_dock_27 hex (Nat.le_of_ble_eq_true rfl) (Nat.le_of_ble_eq_true rfl) (Nat.le_of_ble_eq_true rfl) (Nat.le_of_ble_eq_true rfl) hlocks (Or.inr (Or.inl (⟨rfl, by omega, hd12⟩))) (Nat.le_of_ble_eq_true rfl) (Nat.le_of_ble_eq_true rfl)
  · clear hfr
    obtain ⟨ej10, rfl⟩ := hp9
    have hd13 : 0 ≤ d ∧ d < (n 7 : Int) := Classical.byContradiction fun q => by rw [if_neg q] at ej10; omega
    rw [if_pos hd13] at ej10
    obtain rfl : j10 = d.toNat := by omega
    have v11 : d.toNat < n 7 := v11
    refine lv_astore (lv' := [(4, .ref (am 7 d.toNat)), (3, .ref (am 8 x.toNat)), (0, .ref (am 0 0)), (1, .int (iZ x)), (2, .int (iZ d))]) hx hb dX4_dock_11 hl (by decide) rfl (fun ls hl => ?_)
    refine lv_aload hx hb dX4_dock_13 (lv_at hl 0 rfl) ?_
    refine lv_ifnonnull (tgt := 28) hx hb dX4_dock_15 (by decide) ?_
    refine lv_aload_n hx hb dX4_dock_28 rfl (lv_at hl 1 rfl) ?_
    refine zxc_q (zxS (As := [.ref (am 8 x.toNat)]) (rest := []) ⟨hx, hb, hml, hown, hts⟩ (c_X4_homeOfReachedOrThrow l hfl D cA n am S H.size x.toNat hW v2) (va_cwS 1 hts gX4_dock_X4_homeOfReachedOrThrow rfl rfl rfl (by decide +kernel) ⟨Nat.le_of_ble_eq_true rfl, Nat.le_of_ble_eq_true rfl⟩) hK hI hG rfl hl.1 rfl (Nat.le_of_ble_eq_true rfl) dX4_dock_29 ⟨Nat.le_of_ble_eq_true rfl, Nat.le_of_ble_eq_true rfl⟩) hI hex hlocks (fun E q => Or.inr (Or.inr (Or.inl ⟨q.1, by omega, by omega, q.2⟩))) (Nat.le_of_ble_eq_true rfl) (Nat.le_of_ble_eq_true rfl) (fun z u q => q.1.1) (fun j14 u9 H locs v15 hp16 hI => ?_)
    obtain ⟨⟨q17, q18, q19⟩, rfl⟩ := hp16
    obtain rfl : j14 = (S 8 x.toNat 7).toNat := by omega
    have v15 : (S 8 x.toNat 7).toNat < n 5 := v15
    refine lv_astore (lv' := [(5, .ref (am 5 ((S 8 x.toNat 7).toNat))), (4, .ref (am 7 d.toNat)), (3, .ref (am 8 x.toNat)), (0, .ref (am 0 0)), (1, .int (iZ x)), (2, .int (iZ d))]) hx hb dX4_dock_32 hl (by decide) rfl (fun ls hl => ?_)
    refine lv_aload hx hb dX4_dock_34 (lv_at hl 1 rfl) ?_
    refine lv_aload_n hx hb dX4_dock_36 rfl (lv_at hl 2 rfl) ?_
    refine zc_i (zrV (As := [.ref (am 8 x.toNat)]) (rest := []) (κ := 7) (i := d.toNat) ⟨hx, hb, hml, hown, hts⟩ (c_X1_canTake l D cA n am S H.size d.toNat x.toNat v11 v2) (cwV 1 hts gX4_dock_X1_canTake rfl rfl rfl (by decide +kernel) ⟨Nat.le_of_ble_eq_true rfl, Nat.le_of_ble_eq_true rfl⟩) hK hI v11 rfl rfl rfl hl.1 rfl (Nat.le_of_ble_eq_true rfl) dX4_dock_37 ⟨Nat.le_of_ble_eq_true rfl, Nat.le_of_ble_eq_true rfl⟩) hI (fun z20 u9 H locs hz21 hp22 hI hfr => ?_)
    clear hfr
    obtain ⟨rfl, rfl⟩ := hp22
    refine z_if_ne (tgt := 53) hx hb dX4_dock_40 (by decide) (by omega) (fun c23 => ?_) (fun c23 => ?_)
    · skip
      have c23 := zB_1 c23
      refine lv_aload hx hb dX4_dock_53 (lv_at hl 0 rfl) ?_
      refine zc_q (zrV (As := []) (rest := []) (κ := 5) (i := ((S 8 x.toNat 7).toNat)) ⟨hx, hb, hml, hown, hts⟩ (c_X2_takeOut l D cA n am S H.size ((S 8 x.toNat 7).toNat) hW v15) (cwV 0 hts gX4_dock_X2_takeOut rfl rfl rfl (by decide +kernel) ⟨Nat.le_of_ble_eq_true rfl, Nat.le_of_ble_eq_true rfl⟩) hK hI v15 rfl rfl rfl hl.1 rfl (Nat.le_of_ble_eq_true rfl) dX4_dock_55 ⟨Nat.le_of_ble_eq_true rfl, Nat.le_of_ble_eq_true rfl⟩) hI (fun u9 H locs hp26 hI hfr => ?_) (fun j27 u9 H locs v28 hp26 hI hfr => ?_)
      · clear hfr
        obtain ⟨ez24, rfl⟩ := hp26
        obtain ⟨S29, eS29⟩ : ∃ z, z = yTakeOut S ((S 8 x.toNat 7).toNat) := ⟨_, rfl⟩
        rw [← eS29] at hI
        have hW : cW n S29 := by rw [eS29]; exact yTakeOut_W hW
        refine lv_pop hx hb dX4_dock_58 rfl ?_
        refine lv_aload hx hb dX4_dock_59 (lv_at hl 1 rfl) ?_
        refine z_iconst hx hb dX4_dock_61 ?_
        refine zp_i (κ := 7) (i := d.toNat) (k := 1) hx hb LX1 tyX1 tyX1_ok nmX1 hown hK hI v11 rfl rfl (by decide) rfl f176 (fun _ h9 => h9) rfl (iZ_narz (by omega) (by omega)).1 (iZ_narz (by omega) (by omega)).2 (by omega) dX4_dock_62 (fun H locs hI => ?_)
        obtain ⟨S30, eS30⟩ : ∃ z, z = up3 S29 7 d.toNat 1 1 := ⟨_, rfl⟩
        rw [← eS30] at hI
        have hW : cW n S30 := by rw [eS30]; exact hW.put rfl
        refine lv_aload_n hx hb dX4_dock_65 rfl (lv_at hl 2 rfl) ?_
        refine lv_aload hx hb dX4_dock_66 (lv_at hl 1 rfl) ?_
        refine zp_r (κ := 8) (i := x.toNat) (k := 9) (t := 7) (j := d.toNat) hx hb LX0 tyX0 tyX0_ok nmX0 hown hK hI v2 rfl rfl (by decide) rfl f180 (fun _ h9 => h9) rfl rfl rfl v11 (by have := v11; have := hW.2.2.2.1 7; omega) dX4_dock_68 (fun H locs hI => ?_)
        obtain ⟨S31, eS31⟩ : ∃ z, z = up3 S30 8 x.toNat 9 (d.toNat : Int) := ⟨_, rfl⟩
        rw [← eS31] at hI
        have hW : cW n S31 := by rw [eS31]; exact hW.put rfl
        refine lv_aload_n hx hb dX4_dock_71 rfl (lv_at hl 2 rfl) ?_
        refine z_bipush hx hb dX4_dock_72 (by decide) ?_
        refine zp_i (κ := 8) (i := x.toNat) (k := 4) hx hb LX0 tyX0 tyX0_ok nmX0 hown hK hI v2 rfl rfl (by decide) rfl f102 (fun _ h9 => h9) rfl (iZ_narc (by omega) (by omega)).1 (iZ_narc (by omega) (by omega)).2 (by omega) dX4_dock_74 (fun H locs hI => ?_)
        obtain ⟨S32, eS32⟩ : ∃ z, z = up3 S31 8 x.toNat 4 119 := ⟨_, rfl⟩
        rw [← eS32] at hI
        have hW : cW n S32 := by rw [eS32]; exact hW.put rfl
        refine lv_aload_n hx hb dX4_dock_77 rfl (lv_at hl 2 rfl) ?_
        refine lv_aload_n hx hb dX4_dock_78 rfl (lv_at hl 3 rfl) ?_
        refine zg_i (κ := 0) (i := 0) (k := 10) hx hb LX4 hown hK hI hW.1.1 rfl rfl (by decide) rfl f81 (fun _ h9 => h9) dX4_dock_79 (by rw [eS32, up3_n (by omega), eS31, up3_n (by omega), eS30, up3_n (by omega), eS29, yTakeOut_n (by omega)]) (fun b33 => ?_)
        refine zp_i (κ := 8) (i := x.toNat) (k := 6) hx hb LX0 tyX0 tyX0_ok nmX0 hown hK hI v2 rfl rfl (by decide) rfl f184 (fun _ h9 => h9) rfl rfl rfl (by omega) dX4_dock_82 (fun H locs hI => ?_)
        obtain ⟨S34, eS34⟩ : ∃ z, z = up3 S32 8 x.toNat 6 (S 0 0 10) := ⟨_, rfl⟩
        rw [← eS34] at hI
        have hW : cW n S34 := by rw [eS34]; exact hW.put rfl
        refine lv_aload_n hx hb dX4_dock_85 rfl (lv_at hl 3 rfl) ?_
        refine lv_dup hx hb dX4_dock_86 rfl ?_
        refine zg_i (κ := 0) (i := 0) (k := 11) hx hb LX4 hown hK hI hW.1.1 rfl rfl (by decide) rfl f161 (fun _ h9 => h9) dX4_dock_87 (by rw [eS34, up3_n (by omega), eS32, up3_n (by omega), eS31, up3_n (by omega), eS30, up3_n (by omega), eS29, yTakeOut_n (by omega)]) (fun b35 => ?_)
        refine z_iconst hx hb dX4_dock_90 ?_
        refine z_iadd hx hb dX4_dock_91 ?_
        refine zp_i (κ := 0) (i := 0) (k := 11) hx hb LX4 tyX4 tyX4_ok nmX4 hown hK hI hW.1.1 rfl rfl (by decide) rfl f161 (fun _ h9 => h9) rfl rfl rfl (by omega) dX4_dock_92 (fun H locs hI => ?_)
        obtain ⟨S36, eS36⟩ : ∃ z, z = up3 S34 0 0 11 (S 0 0 11 + 1) := ⟨_, rfl⟩
        rw [← eS36] at hI
        have hW : cW n S36 := by rw [eS36]; exact hW.put rfl
        refine lv_aload_n hx hb dX4_dock_95 rfl (lv_at hl 2 rfl) ?_
        refine zc_i (zrV (As := []) (rest := []) (κ := 8) (i := x.toNat) ⟨hx, hb, hml, hown, hts⟩ (c_X0_doneAt l D cA n am S36 H.size x.toNat v2) (cwV 0 hts gX4_dock_X0_doneAt rfl rfl rfl (by decide +kernel) ⟨Nat.le_of_ble_eq_true rfl, Nat.le_of_ble_eq_true rfl⟩) hK hI v2 rfl rfl rfl hl.1 rfl (Nat.le_of_ble_eq_true rfl) dX4_dock_96 ⟨Nat.le_of_ble_eq_true rfl, Nat.le_of_ble_eq_true rfl⟩) hI (fun z37 u9 H locs hz38 hp39 hI hfr => ?_)
        clear hfr
        obtain ⟨rfl, rfl⟩ := hp39
        exact vx_ret (ze_i (u' := (n, am, S36)) (z := (S36 8 x.toNat 6 + S36 8 x.toNat 3)) hx hb hr rfl hI (by omega) ⟨⟨by omega, by omega, by omega, c23⟩, by rw [eS36, eS34, eS32, eS31, eS30, eS29]; rfl, by rw [eS36, eS34, eS32, eS31, eS30, eS29]; rfl⟩ (Nat.le_of_ble_eq_true rfl) (Nat.le_of_ble_eq_true rfl) dX4_dock_99 hlocks)
      · clear hfr
        obtain ⟨ej27, rfl⟩ := hp26
        have v28 : j27 < n 8 := v28
        obtain ⟨S40, eS40⟩ : ∃ z, z = yTakeOut S ((S 8 x.toNat 7).toNat) := ⟨_, rfl⟩
        rw [← eS40] at hI
        have hW : cW n S40 := by rw [eS40]; exact yTakeOut_W hW
        refine lv_pop hx hb dX4_dock_58 rfl ?_
        refine lv_aload hx hb dX4_dock_59 (lv_at hl 1 rfl) ?_
        refine z_iconst hx hb dX4_dock_61 ?_
        refine zp_i (κ := 7) (i := d.toNat) (k := 1) hx hb LX1 tyX1 tyX1_ok nmX1 hown hK hI v11 rfl rfl (by decide) rfl f176 (fun _ h9 => h9) rfl (iZ_narz (by omega) (by omega)).1 (iZ_narz (by omega) (by omega)).2 (by omega) dX4_dock_62 (fun H locs hI => ?_)
        obtain ⟨S41, eS41⟩ : ∃ z, z = up3 S40 7 d.toNat 1 1 := ⟨_, rfl⟩
        rw [← eS41] at hI
        have hW : cW n S41 := by rw [eS41]; exact hW.put rfl
        refine lv_aload_n hx hb dX4_dock_65 rfl (lv_at hl 2 rfl) ?_
        refine lv_aload hx hb dX4_dock_66 (lv_at hl 1 rfl) ?_
        refine zp_r (κ := 8) (i := x.toNat) (k := 9) (t := 7) (j := d.toNat) hx hb LX0 tyX0 tyX0_ok nmX0 hown hK hI v2 rfl rfl (by decide) rfl f180 (fun _ h9 => h9) rfl rfl rfl v11 (by have := v11; have := hW.2.2.2.1 7; omega) dX4_dock_68 (fun H locs hI => ?_)
        obtain ⟨S42, eS42⟩ : ∃ z, z = up3 S41 8 x.toNat 9 (d.toNat : Int) := ⟨_, rfl⟩
        rw [← eS42] at hI
        have hW : cW n S42 := by rw [eS42]; exact hW.put rfl
        refine lv_aload_n hx hb dX4_dock_71 rfl (lv_at hl 2 rfl) ?_
        refine z_bipush hx hb dX4_dock_72 (by decide) ?_
        refine zp_i (κ := 8) (i := x.toNat) (k := 4) hx hb LX0 tyX0 tyX0_ok nmX0 hown hK hI v2 rfl rfl (by decide) rfl f102 (fun _ h9 => h9) rfl (iZ_narc (by omega) (by omega)).1 (iZ_narc (by omega) (by omega)).2 (by omega) dX4_dock_74 (fun H locs hI => ?_)
        obtain ⟨S43, eS43⟩ : ∃ z, z = up3 S42 8 x.toNat 4 119 := ⟨_, rfl⟩
        rw [← eS43] at hI
        have hW : cW n S43 := by rw [eS43]; exact hW.put rfl
        refine lv_aload_n hx hb dX4_dock_77 rfl (lv_at hl 2 rfl) ?_
        refine lv_aload_n hx hb dX4_dock_78 rfl (lv_at hl 3 rfl) ?_
        refine zg_i (κ := 0) (i := 0) (k := 10) hx hb LX4 hown hK hI hW.1.1 rfl rfl (by decide) rfl f81 (fun _ h9 => h9) dX4_dock_79 (by rw [eS43, up3_n (by omega), eS42, up3_n (by omega), eS41, up3_n (by omega), eS40, yTakeOut_n (by omega)]) (fun b44 => ?_)
        refine zp_i (κ := 8) (i := x.toNat) (k := 6) hx hb LX0 tyX0 tyX0_ok nmX0 hown hK hI v2 rfl rfl (by decide) rfl f184 (fun _ h9 => h9) rfl rfl rfl (by omega) dX4_dock_82 (fun H locs hI => ?_)
        obtain ⟨S45, eS45⟩ : ∃ z, z = up3 S43 8 x.toNat 6 (S 0 0 10) := ⟨_, rfl⟩
        rw [← eS45] at hI
        have hW : cW n S45 := by rw [eS45]; exact hW.put rfl
        refine lv_aload_n hx hb dX4_dock_85 rfl (lv_at hl 3 rfl) ?_
        refine lv_dup hx hb dX4_dock_86 rfl ?_
        refine zg_i (κ := 0) (i := 0) (k := 11) hx hb LX4 hown hK hI hW.1.1 rfl rfl (by decide) rfl f161 (fun _ h9 => h9) dX4_dock_87 (by rw [eS45, up3_n (by omega), eS43, up3_n (by omega), eS42, up3_n (by omega), eS41, up3_n (by omega), eS40, yTakeOut_n (by omega)]) (fun b46 => ?_)
        refine z_iconst hx hb dX4_dock_90 ?_
        refine z_iadd hx hb dX4_dock_91 ?_
        refine zp_i (κ := 0) (i := 0) (k := 11) hx hb LX4 tyX4 tyX4_ok nmX4 hown hK hI hW.1.1 rfl rfl (by decide) rfl f161 (fun _ h9 => h9) rfl rfl rfl (by omega) dX4_dock_92 (fun H locs hI => ?_)
        obtain ⟨S47, eS47⟩ : ∃ z, z = up3 S45 0 0 11 (S 0 0 11 + 1) := ⟨_, rfl⟩
        rw [← eS47] at hI
        have hW : cW n S47 := by rw [eS47]; exact hW.put rfl
        refine lv_aload_n hx hb dX4_dock_95 rfl (lv_at hl 2 rfl) ?_
        refine zc_i (zrV (As := []) (rest := []) (κ := 8) (i := x.toNat) ⟨hx, hb, hml, hown, hts⟩ (c_X0_doneAt l D cA n am S47 H.size x.toNat v2) (cwV 0 hts gX4_dock_X0_doneAt rfl rfl rfl (by decide +kernel) ⟨Nat.le_of_ble_eq_true rfl, Nat.le_of_ble_eq_true rfl⟩) hK hI v2 rfl rfl rfl hl.1 rfl (Nat.le_of_ble_eq_true rfl) dX4_dock_96 ⟨Nat.le_of_ble_eq_true rfl, Nat.le_of_ble_eq_true rfl⟩) hI (fun z48 u9 H locs hz49 hp50 hI hfr => ?_)
        clear hfr
        obtain ⟨rfl, rfl⟩ := hp50
        exact vx_ret (ze_i (u' := (n, am, S47)) (z := (S47 8 x.toNat 6 + S47 8 x.toNat 3)) hx hb hr rfl hI (by omega) ⟨⟨by omega, by omega, by omega, c23⟩, by rw [eS47, eS45, eS43, eS42, eS41, eS40]; rfl, by rw [eS47, eS45, eS43, eS42, eS41, eS40]; rfl⟩ (Nat.le_of_ble_eq_true rfl) (Nat.le_of_ble_eq_true rfl) dX4_dock_99 hlocks)
    · skip
      have c23 := zB_0 c23
      exact zx_throw (text := "the trailer cannot be docked at the door") hx hb hfl hown hG hI xC_UOE xF_UOE (hts _ (by decide +kernel)) (hts _ (by decide +kernel)) (fun w h => hts w (List.mem_cons_of_mem _ (List.mem_append_left _ (List.mem_append_left _ (List.mem_append_right _ h))))) xA_UOE xO_UOE (by decide +kernel) (by rw [hml]; exact hl.1) dX4_dock_43 dX4_dock_46 dX4_dock_47 dX4_dock_49 dX4_dock_52 hex (Nat.le_of_ble_eq_true rfl) (Nat.le_of_ble_eq_true rfl) (Nat.le_of_ble_eq_true rfl) (Nat.le_of_ble_eq_true rfl) hlocks (Or.inr (Or.inr (Or.inr (⟨rfl, by omega, by omega, by omega, c23⟩)))) (Nat.le_of_ble_eq_true rfl) (Nat.le_of_ble_eq_true rfl)
set_option maxHeartbeats 4000000 in
set_option maxRecDepth 100000 in
theorem c_X4_leave (l : Launch) (hfl : l.stackTraces = false) (D : va_G) (cA : Nat → ClassId) (n : Nat → Nat) (am : ts_Am) (S : ts_St) (sz : Nat) (x : Int) (hW : cW n S) (hx0 : iR x) (hcr : cR n S) : vx_Met l yX4_leave wsX4_leave ({ frames := 7, cells := 2, slots := 12, locals := 112 } : Room) (va_Pc [.ref (am 0 0), .int (iZ x)] (zPX TX D cA (n, am, S) sz)) (zQi TX D cA (n, am, S) sz (fun z u => ((0 ≤ x ∧ x < (n 8 : Int)) ∧ 0 ≤ S 8 x.toNat 9 ∧ S 8 x.toNat 6 + S 8 x.toNat 3 ≤ S 0 0 10) ∧ z = yCharge (yLeave0 S x.toNat) x.toNat ∧ u = (n, am, yLeave S x.toNat))) (zXX TX D cA (n, am, S) sz (fun E => (E = xN_NSE ∧ ¬ (0 ≤ x ∧ x < (n 8 : Int))) ∨ (E = xN_ISE ∧ (0 ≤ x ∧ x < (n 8 : Int)) ∧ S 8 x.toNat 9 < 0) ∨ (E = xN_UOE ∧ (0 ≤ x ∧ x < (n 8 : Int)) ∧ 0 ≤ S 8 x.toNat 9 ∧ S 0 0 10 < S 8 x.toNat 6 + S 8 x.toNat 3))) 2 12 (ts_A (n, am, S) sz) := by
  refine zMx_of (by decide) rfl (Nat.le_of_ble_eq_true rfl) ?_
  intro p e s m below meth c hx hb hr hts hown hlocks hml hex hK hG hsz H locs hI ls hl
  subst hsz
  have hown : s.vm.findClass RX4 = some m.cls := hown
  have hl : lv_has ls 5 [(0, .ref (am 0 0)), (1, .int (iZ x))] := hl
  have f102 := hts (.fieldLink RX4 102 "DockyardSlots$Appointment" "state" "C") (by decide +kernel)
  have f176 := hts (.fieldLink RX4 176 "DockyardSlots$Door" "isUsed" "Z") (by decide +kernel)
  have f180 := hts (.fieldLink RX4 180 "DockyardSlots$Appointment" "door" "LDockyardSlots$Door;") (by decide +kernel)
  have f198 := hts (.fieldLink RX4 198 "DockyardSlots" "chargedSum" "J") (by decide +kernel)
  have f81 := hts (.fieldLink RX4 81 "DockyardSlots" "now" "I") (by decide +kernel)
  have LX0 : ∀ w ∈ wsX00, w.before [.ref (am 0 0), .int (iZ x)].toArray s = true := fun w h => hts w (List.mem_cons_of_mem _ (List.mem_append_left _ (List.mem_append_left _ (List.mem_append_left _ (List.mem_append_left _ (List.mem_append_left _ (List.mem_append_right _ h)))))))
  have LX1 : ∀ w ∈ wsX10, w.before [.ref (am 0 0), .int (iZ x)].toArray s = true := fun w h => hts w (List.mem_cons_of_mem _ (List.mem_append_left _ (List.mem_append_left _ (List.mem_append_left _ (List.mem_append_right _ h)))))
  have LX4 : ∀ w ∈ wsX40, w.before [.ref (am 0 0), .int (iZ x)].toArray s = true := fun w h => hts w (List.mem_cons_of_mem _ (List.mem_append_left _ (List.mem_append_left _ (List.mem_append_left _ (List.mem_append_left _ (List.mem_append_right _ h))))))
  have hcn := hW.cn
  have hlim := hW.lim
  have hcr1 := hcr.1
  refine lv_aload_n hx hb dX4_leave_0 rfl (lv_at hl 0 rfl) ?_
  refine lv_iload_n hx hb dX4_leave_1 rfl (lv_at hl 1 rfl) ?_
  refine zxc_q (zxV (As := [.int (iZ x)]) (rest := []) (κ := 0) (i := 0) ⟨hx, hb, hml, hown, hts⟩ (c_X4_appointmentOrThrow l hfl D cA n am S H.size x hW (by omega)) (cwV 1 hts gX4_leave_X4_appointmentOrThrow rfl rfl rfl (by decide +kernel) ⟨Nat.le_of_ble_eq_true rfl, Nat.le_of_ble_eq_true rfl⟩) hK hI hG hW.1.1 rfl rfl rfl hl.1 rfl (Nat.le_of_ble_eq_true rfl) dX4_leave_2 ⟨Nat.le_of_ble_eq_true rfl, Nat.le_of_ble_eq_true rfl⟩) hI hex hlocks (fun E q => Or.inl q) (Nat.le_of_ble_eq_true rfl) (Nat.le_of_ble_eq_true rfl) (fun z u q => q.1.1) (fun j1 u9 H locs v2 hp3 hI => ?_)
  obtain ⟨⟨q4, q5, q6⟩, rfl⟩ := hp3
  obtain rfl : j1 = x.toNat := by omega
  have v2 : x.toNat < n 8 := v2
  refine lv_astore_n (lv' := [(2, .ref (am 8 x.toNat)), (0, .ref (am 0 0)), (1, .int (iZ x))]) hx hb dX4_leave_5 rfl hl (by decide) rfl (fun ls hl => ?_)
  refine lv_aload_n hx hb dX4_leave_6 rfl (lv_at hl 0 rfl) ?_
  refine zg_q (κ := 8) (i := x.toNat) (k := 9) (t := 7) hx hb LX0 hown hK hI v2 rfl rfl (by decide) rfl f180 (fun _ h9 => h9) dX4_leave_7 (fun q7 => ?_) (fun j10 q8 v9 => ?_)
  · skip
    refine lv_astore_nN (lv' := [(3, .null), (2, .ref (am 8 x.toNat)), (0, .ref (am 0 0)), (1, .int (iZ x))]) hx hb dX4_leave_10 rfl hl (by decide) rfl (fun ls hl => ?_)
    refine lv_aload_nN hx hb dX4_leave_11 rfl (lv_at hl 0 rfl) ?_
    refine lv_ifnonnullN hx hb dX4_leave_12 ?_
    exact zx_throw (text := "the trailer is not at a door") hx hb hfl hown hG hI xC_ISE xF_ISE (hts _ (by decide +kernel)) (hts _ (by decide +kernel)) (fun w h => hts w (List.mem_cons_of_mem _ (List.mem_append_left _ (List.mem_append_left _ (List.mem_append_right _ h))))) xA_ISE xO_ISE (by decide +kernel) (by rw [hml]; exact hl.1) dX4_leave_15 dX4_leave_18 dX4_leave_19 dX4_leave_21 dX4_leave_24 hex (Nat.le_of_ble_eq_true rfl) (Nat.le_of_ble_eq_true rfl) (Nat.le_of_ble_eq_true rfl) (Nat.le_of_ble_eq_true rfl) hlocks (Or.inr (Or.inl (⟨rfl, by omega, by omega⟩))) (Nat.le_of_ble_eq_true rfl) (Nat.le_of_ble_eq_true rfl)
  · skip
    refine lv_astore_n (lv' := [(3, .ref (am 7 j10)), (2, .ref (am 8 x.toNat)), (0, .ref (am 0 0)), (1, .int (iZ x))]) hx hb dX4_leave_10 rfl hl (by decide) rfl (fun ls hl => ?_)
    refine lv_aload_n hx hb dX4_leave_11 rfl (lv_at hl 0 rfl) ?_
    refine lv_ifnonnull (tgt := 25) hx hb dX4_leave_12 (by decide) ?_
    obtain rfl : j10 = (S 8 x.toNat 9).toNat := by omega
    refine lv_aload_n hx hb dX4_leave_25 rfl (lv_at hl 2 rfl) ?_
    refine zg_i (κ := 0) (i := 0) (k := 10) hx hb LX4 hown hK hI hW.1.1 rfl rfl (by decide) rfl f81 (fun _ h9 => h9) dX4_leave_26 rfl (fun b11 => ?_)
    refine lv_aload_n hx hb dX4_leave_29 rfl (lv_at hl 1 rfl) ?_
    refine zc_i (zrV (As := []) (rest := [.int (iZ (S 0 0 10))]) (κ := 8) (i := x.toNat) ⟨hx, hb, hml, hown, hts⟩ (c_X0_doneAt l D cA n am S H.size x.toNat v2) (cwV 0 hts gX4_leave_X0_doneAt rfl rfl rfl (by decide +kernel) ⟨Nat.le_of_ble_eq_true rfl, Nat.le_of_ble_eq_true rfl⟩) hK hI v2 rfl rfl rfl hl.1 rfl (Nat.le_of_ble_eq_true rfl) dX4_leave_30 ⟨Nat.le_of_ble_eq_true rfl, Nat.le_of_ble_eq_true rfl⟩) hI (fun z12 u9 H locs hz13 hp14 hI hfr => ?_)
    clear hfr
    obtain ⟨rfl, rfl⟩ := hp14
    refine z_icmp_ge (tgt := 46) hx hb dX4_leave_33 (by decide) (by omega) (by omega) (fun c15 => ?_) (fun c15 => ?_)
    · skip
      refine lv_aload_n hx hb dX4_leave_46 rfl (lv_at hl 0 rfl) ?_
      refine z_iconst hx hb dX4_leave_47 ?_
      refine zp_i (κ := 7) (i := ((S 8 x.toNat 9).toNat)) (k := 1) hx hb LX1 tyX1 tyX1_ok nmX1 hown hK hI v9 rfl rfl (by decide) rfl f176 (fun _ h9 => h9) rfl (iZ_narz (by omega) (by omega)).1 (iZ_narz (by omega) (by omega)).2 (by omega) dX4_leave_48 (fun H locs hI => ?_)
      obtain ⟨S16, eS16⟩ : ∃ z, z = up3 S 7 ((S 8 x.toNat 9).toNat) 1 0 := ⟨_, rfl⟩
      rw [← eS16] at hI
      have hW : cW n S16 := by rw [eS16]; exact hW.put rfl
      refine lv_aload_n hx hb dX4_leave_51 rfl (lv_at hl 1 rfl) ?_
      refine lv_null hx hb dX4_leave_52 ?_
      refine zp_n (κ := 8) (i := x.toNat) (k := 9) (t := 7) hx hb LX0 tyX0 tyX0_ok nmX0 hown hK hI v2 rfl rfl (by decide) rfl f180 (fun _ h9 => h9) rfl rfl rfl dX4_leave_53 (fun H locs hI => ?_)
      obtain ⟨S17, eS17⟩ : ∃ z, z = up3 S16 8 x.toNat 9 (-1) := ⟨_, rfl⟩
      rw [← eS17] at hI
      have hW : cW n S17 := by rw [eS17]; exact hW.put rfl
      refine lv_aload_n hx hb dX4_leave_56 rfl (lv_at hl 1 rfl) ?_
      refine z_bipush hx hb dX4_leave_57 (by decide) ?_
      refine zp_i (κ := 8) (i := x.toNat) (k := 4) hx hb LX0 tyX0 tyX0_ok nmX0 hown hK hI v2 rfl rfl (by decide) rfl f102 (fun _ h9 => h9) rfl (iZ_narc (by omega) (by omega)).1 (iZ_narc (by omega) (by omega)).2 (by omega) dX4_leave_59 (fun H locs hI => ?_)
      obtain ⟨S18, eS18⟩ : ∃ z, z = up3 S17 8 x.toNat 4 103 := ⟨_, rfl⟩
      rw [← eS18] at hI
      have hW : cW n S18 := by rw [eS18]; exact hW.put rfl
      refine lv_aload_n hx hb dX4_leave_62 rfl (lv_at hl 2 rfl) ?_
      refine lv_aload_n hx hb dX4_leave_63 rfl (lv_at hl 1 rfl) ?_
      refine zc_i (zrV (As := [.ref (am 8 x.toNat)]) (rest := []) (κ := 0) (i := 0) ⟨hx, hb, hml, hown, hts⟩ (c_X4_chargeInSteps l D cA n am S18 H.size x.toNat hW v2 (by rw [eS18, eS17, eS16]; exact yLeave0_R hcr x.toNat)) (cwV 1 hts gX4_leave_X4_chargeInSteps rfl rfl rfl (by decide +kernel) ⟨Nat.le_of_ble_eq_true rfl, Nat.le_of_ble_eq_true rfl⟩) hK hI hW.1.1 rfl rfl rfl hl.1 rfl (Nat.le_of_ble_eq_true rfl) dX4_leave_64 ⟨Nat.le_of_ble_eq_true rfl, Nat.le_of_ble_eq_true rfl⟩) hI (fun z19 u9 H locs hz20 hp21 hI hfr => ?_)
      clear hfr
      obtain ⟨rfl, rfl⟩ := hp21
      have hyc := yCharge_R (S := S18) (by rw [eS18, eS17, eS16]; exact yLeave0_R hcr x.toNat) (j := x.toNat) (by omega)
      refine lv_istore (lv' := [(4, .int (iZ (yCharge S18 x.toNat))), (3, .ref (am 7 ((S 8 x.toNat 9).toNat))), (2, .ref (am 8 x.toNat)), (0, .ref (am 0 0)), (1, .int (iZ x))]) hx hb dX4_leave_67 hl (by decide) rfl (fun ls hl => ?_)
      refine lv_aload_n hx hb dX4_leave_69 rfl (lv_at hl 3 rfl) ?_
      refine lv_dup hx hb dX4_leave_70 rfl ?_
      refine zg_l (κ := 0) (i := 0) (k := 12) hx hb LX4 hown hK hI hW.1.1 rfl rfl (by decide) rfl f198 (fun _ h9 => h9) dX4_leave_71 (by rw [eS18, up3_n (by omega), eS17, up3_n (by omega), eS16, up3_n (by omega)]) ?_
      refine lv_iload hx hb dX4_leave_74 (lv_at hl 0 rfl) ?_
      refine z_i2l hx hb dX4_leave_76 (by omega) ?_
      refine z_ladd hx hb dX4_leave_77 ?_
      refine zp_l (κ := 0) (i := 0) (k := 12) hx hb LX4 tyX4 tyX4_ok nmX4 hown hK hI hW.1.1 rfl rfl (by decide) rfl f198 (fun _ h9 => h9) rfl rfl rfl dX4_leave_78 (fun H locs hI => ?_)
      obtain ⟨S23, eS23⟩ : ∃ z, z = up3 S18 0 0 12 (S 0 0 12 + yCharge S18 x.toNat) := ⟨_, rfl⟩
      rw [← eS23] at hI
      have hW : cW n S23 := by rw [eS23]; exact hW.put rfl
      refine lv_iload hx hb dX4_leave_81 (lv_at hl 0 rfl) ?_
      exact vx_ret (ze_i (u' := (n, am, S23)) (z := yCharge S18 x.toNat) hx hb hr rfl hI (by omega) ⟨⟨by omega, by omega, by omega⟩, by rw [eS18, eS17, eS16]; rfl, by rw [eS23, eS18, eS17, eS16]; rfl⟩ (Nat.le_of_ble_eq_true rfl) (Nat.le_of_ble_eq_true rfl) dX4_leave_83 hlocks)
    · skip
      exact zx_throw (text := "the work is not done") hx hb hfl hown hG hI xC_UOE xF_UOE (hts _ (by decide +kernel)) (hts _ (by decide +kernel)) (fun w h => hts w (List.mem_cons_of_mem _ (List.mem_append_left _ (List.mem_append_right _ h)))) xA_UOE xO_UOE (by decide +kernel) (by rw [hml]; exact hl.1) dX4_leave_36 dX4_leave_39 dX4_leave_40 dX4_leave_42 dX4_leave_45 hex (Nat.le_of_ble_eq_true rfl) (Nat.le_of_ble_eq_true rfl) (Nat.le_of_ble_eq_true rfl) (Nat.le_of_ble_eq_true rfl) hlocks (Or.inr (Or.inr (⟨rfl, by omega, by omega, by omega⟩))) (Nat.le_of_ble_eq_true rfl) (Nat.le_of_ble_eq_true rfl)
set_option maxHeartbeats 4000000 in
set_option maxRecDepth 100000 in
theorem c_X4_laneOf (l : Launch) (hfl : l.stackTraces = false) (D : va_G) (cA : Nat → ClassId) (n : Nat → Nat) (am : ts_Am) (S : ts_St) (sz : Nat) (x : Int) (hW : cW n S) (hx0 : iR x) : vx_Met l yX4_laneOf wsX4_laneOf ({ frames := 7, cells := 2, slots := 12, locals := 112 } : Room) (va_Pc [.ref (am 0 0), .int (iZ x)] (zPX TX D cA (n, am, S) sz)) (zQi TX D cA (n, am, S) sz (fun z u => ((0 ≤ x ∧ x < (n 8 : Int)) ∧ 0 ≤ S 8 x.toNat 7) ∧ z = S 8 x.toNat 7 ∧ u = (n, am, S))) (zXX TX D cA (n, am, S) sz (fun E => (E = xN_NSE ∧ ¬ (0 ≤ x ∧ x < (n 8 : Int))) ∨ (E = xN_ISE ∧ (0 ≤ x ∧ x < (n 8 : Int)) ∧ S 8 x.toNat 7 < 0))) 2 12 (ts_A (n, am, S) sz) := by
  refine zMx_of (by decide) rfl (Nat.le_of_ble_eq_true rfl) ?_
  intro p e s m below meth c hx hb hr hts hown hlocks hml hex hK hG hsz H locs hI ls hl
  subst hsz
  have hown : s.vm.findClass RX4 = some m.cls := hown
  have hl : lv_has ls 2 [(0, .ref (am 0 0)), (1, .int (iZ x))] := hl
  have f154 := hts (.fieldLink RX4 154 "DockyardSlots$Lane" "number" "I") (by decide +kernel)
  have LX2 : ∀ w ∈ wsX20, w.before [.ref (am 0 0), .int (iZ x)].toArray s = true := fun w h => hts w (List.mem_cons_of_mem _ (List.mem_append_left _ (List.mem_append_left _ (List.mem_append_left _ (List.mem_append_left _ (List.mem_append_right _ h))))))
  have hcn := hW.cn
  have hlim := hW.lim
  refine lv_aload_n hx hb dX4_laneOf_0 rfl (lv_at hl 0 rfl) ?_
  refine lv_iload_n hx hb dX4_laneOf_1 rfl (lv_at hl 1 rfl) ?_
  refine zxc_q (zxV (As := [.int (iZ x)]) (rest := []) (κ := 0) (i := 0) ⟨hx, hb, hml, hown, hts⟩ (c_X4_appointmentOrThrow l hfl D cA n am S H.size x hW (by omega)) (cwV 1 hts gX4_laneOf_X4_appointmentOrThrow rfl rfl rfl (by decide +kernel) ⟨Nat.le_of_ble_eq_true rfl, Nat.le_of_ble_eq_true rfl⟩) hK hI hG hW.1.1 rfl rfl rfl hl.1 rfl (Nat.le_of_ble_eq_true rfl) dX4_laneOf_2 ⟨Nat.le_of_ble_eq_true rfl, Nat.le_of_ble_eq_true rfl⟩) hI hex hlocks (fun E q => Or.inl q) (Nat.le_of_ble_eq_true rfl) (Nat.le_of_ble_eq_true rfl) (fun z u q => q.1.1) (fun j1 u9 H locs v2 hp3 hI => ?_)
  obtain ⟨⟨q4, q5, q6⟩, rfl⟩ := hp3
  obtain rfl : j1 = x.toNat := by omega
  have v2 : x.toNat < n 8 := v2
  refine zxc_q (zxS (As := [.ref (am 8 x.toNat)]) (rest := []) ⟨hx, hb, hml, hown, hts⟩ (c_X4_homeOrThrow l hfl D cA n am S H.size x.toNat hW v2) (va_cwS 1 hts gX4_laneOf_X4_homeOrThrow rfl rfl rfl (by decide +kernel) ⟨Nat.le_of_ble_eq_true rfl, Nat.le_of_ble_eq_true rfl⟩) hK hI hG rfl hl.1 rfl (Nat.le_of_ble_eq_true rfl) dX4_laneOf_5 ⟨Nat.le_of_ble_eq_true rfl, Nat.le_of_ble_eq_true rfl⟩) hI hex hlocks (fun E q => Or.inr ⟨q.1, by omega, q.2⟩) (Nat.le_of_ble_eq_true rfl) (Nat.le_of_ble_eq_true rfl) (fun z u q => q.1.1) (fun j7 u9 H locs v8 hp9 hI => ?_)
  obtain ⟨⟨q10, q11⟩, rfl⟩ := hp9
  obtain rfl : j7 = (S 8 x.toNat 7).toNat := by omega
  have v8 : (S 8 x.toNat 7).toNat < n 5 := v8
  refine zg_i (κ := 5) (i := ((S 8 x.toNat 7).toNat)) (k := 0) hx hb LX2 hown hK hI v8 rfl rfl (by decide) rfl f154 (fun _ h9 => h9) dX4_laneOf_8 rfl (fun b12 => ?_)
  exact vx_ret (ze_i (u' := (n, am, S)) (z := S 5 ((S 8 x.toNat 7).toNat) 0) hx hb hr rfl hI (by omega) ⟨⟨by omega, by omega⟩, by rw [hW.ln (by omega)]; omega, rfl⟩ (Nat.le_of_ble_eq_true rfl) (Nat.le_of_ble_eq_true rfl) dX4_laneOf_11 hlocks)
set_option maxHeartbeats 4000000 in
set_option maxRecDepth 100000 in
theorem c_X4_blockers (l : Launch) (hfl : l.stackTraces = false) (D : va_G) (cA : Nat → ClassId) (n : Nat → Nat) (am : ts_Am) (S : ts_St) (sz : Nat) (x : Int) (hW : cW n S) (hx0 : iR x) : vx_Met l yX4_blockers wsX4_blockers ({ frames := 7, cells := 2, slots := 12, locals := 112 } : Room) (va_Pc [.ref (am 0 0), .int (iZ x)] (zPX TX D cA (n, am, S) sz)) (zQi TX D cA (n, am, S) sz (fun z u => ((0 ≤ x ∧ x < (n 8 : Int)) ∧ 0 ≤ S 8 x.toNat 7) ∧ z = yBefore S (S 8 x.toNat 7).toNat x.toNat ∧ u = (n, am, S))) (zXX TX D cA (n, am, S) sz (fun E => (E = xN_NSE ∧ ¬ (0 ≤ x ∧ x < (n 8 : Int))) ∨ (E = xN_ISE ∧ (0 ≤ x ∧ x < (n 8 : Int)) ∧ S 8 x.toNat 7 < 0))) 2 12 (ts_A (n, am, S) sz) := by
  refine zMx_of (by decide) rfl (Nat.le_of_ble_eq_true rfl) ?_
  intro p e s m below meth c hx hb hr hts hown hlocks hml hex hK hG hsz H locs hI ls hl
  subst hsz
  have hown : s.vm.findClass RX4 = some m.cls := hown
  have hl : lv_has ls 3 [(0, .ref (am 0 0)), (1, .int (iZ x))] := hl
  have hcn := hW.cn
  have hlim := hW.lim
  refine lv_aload_n hx hb dX4_blockers_0 rfl (lv_at hl 0 rfl) ?_
  refine lv_iload_n hx hb dX4_blockers_1 rfl (lv_at hl 1 rfl) ?_
  refine zxc_q (zxV (As := [.int (iZ x)]) (rest := []) (κ := 0) (i := 0) ⟨hx, hb, hml, hown, hts⟩ (c_X4_appointmentOrThrow l hfl D cA n am S H.size x hW (by omega)) (cwV 1 hts gX4_blockers_X4_appointmentOrThrow rfl rfl rfl (by decide +kernel) ⟨Nat.le_of_ble_eq_true rfl, Nat.le_of_ble_eq_true rfl⟩) hK hI hG hW.1.1 rfl rfl rfl hl.1 rfl (Nat.le_of_ble_eq_true rfl) dX4_blockers_2 ⟨Nat.le_of_ble_eq_true rfl, Nat.le_of_ble_eq_true rfl⟩) hI hex hlocks (fun E q => Or.inl q) (Nat.le_of_ble_eq_true rfl) (Nat.le_of_ble_eq_true rfl) (fun z u q => q.1.1) (fun j1 u9 H locs v2 hp3 hI => ?_)
  obtain ⟨⟨q4, q5, q6⟩, rfl⟩ := hp3
  obtain rfl : j1 = x.toNat := by omega
  have v2 : x.toNat < n 8 := v2
  refine lv_astore_n (lv' := [(2, .ref (am 8 x.toNat)), (0, .ref (am 0 0)), (1, .int (iZ x))]) hx hb dX4_blockers_5 rfl hl (by decide) rfl (fun ls hl => ?_)
  refine lv_aload_n hx hb dX4_blockers_6 rfl (lv_at hl 0 rfl) ?_
  refine zxc_q (zxS (As := [.ref (am 8 x.toNat)]) (rest := []) ⟨hx, hb, hml, hown, hts⟩ (c_X4_homeOrThrow l hfl D cA n am S H.size x.toNat hW v2) (va_cwS 1 hts gX4_blockers_X4_homeOrThrow rfl rfl rfl (by decide +kernel) ⟨Nat.le_of_ble_eq_true rfl, Nat.le_of_ble_eq_true rfl⟩) hK hI hG rfl hl.1 rfl (Nat.le_of_ble_eq_true rfl) dX4_blockers_7 ⟨Nat.le_of_ble_eq_true rfl, Nat.le_of_ble_eq_true rfl⟩) hI hex hlocks (fun E q => Or.inr ⟨q.1, by omega, q.2⟩) (Nat.le_of_ble_eq_true rfl) (Nat.le_of_ble_eq_true rfl) (fun z u q => q.1.1) (fun j7 u9 H locs v8 hp9 hI => ?_)
  obtain ⟨⟨q10, q11⟩, rfl⟩ := hp9
  obtain rfl : j7 = (S 8 x.toNat 7).toNat := by omega
  have v8 : (S 8 x.toNat 7).toNat < n 5 := v8
  refine lv_aload_n hx hb dX4_blockers_10 rfl (lv_at hl 0 rfl) ?_
  refine zc_i (zrV (As := [.ref (am 8 x.toNat)]) (rest := []) (κ := 5) (i := ((S 8 x.toNat 7).toNat)) ⟨hx, hb, hml, hown, hts⟩ (c_X2_countBefore l D cA n am S H.size ((S 8 x.toNat 7).toNat) x.toNat v8 v2) (cwV 1 hts gX4_blockers_X2_countBefore rfl rfl rfl (by decide +kernel) ⟨Nat.le_of_ble_eq_true rfl, Nat.le_of_ble_eq_true rfl⟩) hK hI v8 rfl rfl rfl hl.1 rfl (Nat.le_of_ble_eq_true rfl) dX4_blockers_11 ⟨Nat.le_of_ble_eq_true rfl, Nat.le_of_ble_eq_true rfl⟩) hI (fun z12 u9 H locs hz13 hp14 hI hfr => ?_)
  clear hfr
  obtain ⟨rfl, rfl⟩ := hp14
  exact vx_ret (ze_i (u' := (n, am, S)) (z := yBefore S ((S 8 x.toNat 7).toNat) x.toNat) hx hb hr rfl hI (by omega) ⟨⟨by omega, by omega⟩, rfl, rfl⟩ (Nat.le_of_ble_eq_true rfl) (Nat.le_of_ble_eq_true rfl) dX4_blockers_14 hlocks)
set_option maxHeartbeats 4000000 in
set_option maxRecDepth 100000 in
theorem c_X4_trailerAt (l : Launch) (hfl : l.stackTraces = false) (D : va_G) (cA : Nat → ClassId) (n : Nat → Nat) (am : ts_Am) (S : ts_St) (sz : Nat) (y x : Int) (hW : cW n S) (hy0 : iR y) (hx0 : iR x) : vx_Met l yX4_trailerAt wsX4_trailerAt ({ frames := 7, cells := 2, slots := 12, locals := 112 } : Room) (va_Pc [.ref (am 0 0), .int (iZ y), .int (iZ x)] (zPX TX D cA (n, am, S) sz)) (zQi TX D cA (n, am, S) sz (fun z u => ((0 ≤ y ∧ y < (n 5 : Int)) ∧ 0 ≤ yExit S y.toNat x) ∧ z = yExit S y.toNat x ∧ u = (n, am, S))) (zXX TX D cA (n, am, S) sz (fun E => (E = xN_IOB ∧ ¬ (0 ≤ y ∧ y < (n 5 : Int))) ∨ (E = xN_NSE ∧ (0 ≤ y ∧ y < (n 5 : Int)) ∧ yExit S y.toNat x < 0))) 2 12 (ts_A (n, am, S) sz) := by
  refine zMx_of (by decide) rfl (Nat.le_of_ble_eq_true rfl) ?_
  intro p e s m below meth c hx hb hr hts hown hlocks hml hex hK hG hsz H locs hI ls hl
  subst hsz
  have hown : s.vm.findClass RX4 = some m.cls := hown
  have hl : lv_has ls 4 [(0, .ref (am 0 0)), (1, .int (iZ y)), (2, .int (iZ x))] := hl
  have f147 := hts (.fieldLink RX4 147 "DockyardSlots$Appointment" "number" "I") (by decide +kernel)
  have LX0 : ∀ w ∈ wsX00, w.before [.ref (am 0 0), .int (iZ y), .int (iZ x)].toArray s = true := fun w h => hts w (List.mem_cons_of_mem _ (List.mem_append_left _ (List.mem_append_left _ (List.mem_append_left _ (List.mem_append_left _ (List.mem_append_left _ (List.mem_append_right _ h)))))))
  have hcn := hW.cn
  have hlim := hW.lim
  refine lv_aload_n hx hb dX4_trailerAt_0 rfl (lv_at hl 0 rfl) ?_
  refine lv_iload_n hx hb dX4_trailerAt_1 rfl (lv_at hl 1 rfl) ?_
  refine zxc_q (zxV (As := [.int (iZ y)]) (rest := []) (κ := 0) (i := 0) ⟨hx, hb, hml, hown, hts⟩ (c_X4_laneOrThrow l hfl D cA n am S H.size y hW (by omega)) (cwV 1 hts gX4_trailerAt_X4_laneOrThrow rfl rfl rfl (by decide +kernel) ⟨Nat.le_of_ble_eq_true rfl, Nat.le_of_ble_eq_true rfl⟩) hK hI hG hW.1.1 rfl rfl rfl hl.1 rfl (Nat.le_of_ble_eq_true rfl) dX4_trailerAt_2 ⟨Nat.le_of_ble_eq_true rfl, Nat.le_of_ble_eq_true rfl⟩) hI hex hlocks (fun E q => Or.inl q) (Nat.le_of_ble_eq_true rfl) (Nat.le_of_ble_eq_true rfl) (fun z u q => q.1.1) (fun j1 u9 H locs v2 hp3 hI => ?_)
  obtain ⟨⟨q4, q5, q6⟩, rfl⟩ := hp3
  obtain rfl : j1 = y.toNat := by omega
  have v2 : y.toNat < n 5 := v2
  refine lv_iload_n hx hb dX4_trailerAt_5 rfl (lv_at hl 2 rfl) ?_
  refine zc_q (zrV (As := [.int (iZ x)]) (rest := []) (κ := 5) (i := y.toNat) ⟨hx, hb, hml, hown, hts⟩ (c_X2_fromExit l D cA n am S H.size y.toNat x hW v2 (by omega)) (cwV 1 hts gX4_trailerAt_X2_fromExit rfl rfl rfl (by decide +kernel) ⟨Nat.le_of_ble_eq_true rfl, Nat.le_of_ble_eq_true rfl⟩) hK hI v2 rfl rfl rfl hl.1 rfl (Nat.le_of_ble_eq_true rfl) dX4_trailerAt_6 ⟨Nat.le_of_ble_eq_true rfl, Nat.le_of_ble_eq_true rfl⟩) hI (fun u9 H locs hp9 hI hfr => ?_) (fun j10 u9 H locs v11 hp9 hI hfr => ?_)
  · clear hfr
    obtain ⟨ez7, rfl⟩ := hp9
    refine lv_astore_nN (lv' := [(3, .null), (0, .ref (am 0 0)), (1, .int (iZ y)), (2, .int (iZ x))]) hx hb dX4_trailerAt_9 rfl hl (by decide) rfl (fun ls hl => ?_)
    refine lv_aload_nN hx hb dX4_trailerAt_10 rfl (lv_at hl 0 rfl) ?_
    refine lv_ifnonnullN hx hb dX4_trailerAt_11 ?_
    exact zx_throw (text := "there is no such trailer") hx hb hfl hown hG hI xC_NSE xF_NSE (hts _ (by decide +kernel)) (hts _ (by decide +kernel)) (fun w h => hts w (List.mem_cons_of_mem _ (List.mem_append_left _ (List.mem_append_right _ h)))) xA_NSE xO_NSE (by decide +kernel) (by rw [hml]; exact hl.1) dX4_trailerAt_14 dX4_trailerAt_17 dX4_trailerAt_18 dX4_trailerAt_20 dX4_trailerAt_23 hex (Nat.le_of_ble_eq_true rfl) (Nat.le_of_ble_eq_true rfl) (Nat.le_of_ble_eq_true rfl) (Nat.le_of_ble_eq_true rfl) hlocks (Or.inr (⟨rfl, by omega, by omega⟩)) (Nat.le_of_ble_eq_true rfl) (Nat.le_of_ble_eq_true rfl)
  · clear hfr
    obtain ⟨ej10, rfl⟩ := hp9
    have v11 : j10 < n 8 := v11
    refine lv_astore_n (lv' := [(3, .ref (am 8 j10)), (0, .ref (am 0 0)), (1, .int (iZ y)), (2, .int (iZ x))]) hx hb dX4_trailerAt_9 rfl hl (by decide) rfl (fun ls hl => ?_)
    refine lv_aload_n hx hb dX4_trailerAt_10 rfl (lv_at hl 0 rfl) ?_
    refine lv_ifnonnull (tgt := 24) hx hb dX4_trailerAt_11 (by decide) ?_
    refine lv_aload_n hx hb dX4_trailerAt_24 rfl (lv_at hl 0 rfl) ?_
    refine zg_i (κ := 8) (i := j10) (k := 0) hx hb LX0 hown hK hI v11 rfl rfl (by decide) rfl f147 (fun _ h9 => h9) dX4_trailerAt_25 rfl (fun b12 => ?_)
    exact vx_ret (ze_i (u' := (n, am, S)) (z := S 8 j10 0) hx hb hr rfl hI (by omega) ⟨⟨by omega, by omega⟩, by rw [hW.an (by omega)]; exact ej10, rfl⟩ (Nat.le_of_ble_eq_true rfl) (Nat.le_of_ble_eq_true rfl) dX4_trailerAt_28 hlocks)
