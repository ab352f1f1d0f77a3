/-! The yard's own helpers. -/
def yPunc (S : ts_St) (j : Nat) : Int := if S 8 j 5 - S 8 j 1 > S 0 0 5 then 108 else if -(S 8 j 5 - S 8 j 1) > S 0 0 5 then 101 else 111
def yWait (S : ts_St) (j : Nat) : Int := max 0 ((if S 8 j 4 = 121 then S 0 0 10 else S 8 j 6) - max (S 8 j 5) (S 8 j 1))
def yPaid (S : ts_St) (j : Nat) : Int := max 0 (yWait S j - S 0 0 6)
def yCharge (S : ts_St) (j : Nat) : Int := if yPunc S j = 108 then 0 else min (yPaid S j) (S 0 0 8) * S 0 0 7 + (yPaid S j - min (yPaid S j) (S 0 0 8)) * S 0 0 9
def yRate (S : ts_St) (x : Int) : Int := if x < S 0 0 6 then 0 else if x < S 0 0 6 + S 0 0 8 then S 0 0 7 else S 0 0 9
/-- the numbers' ranges -/
def cR (n : Nat → Nat) (S : ts_St) : Prop := ((0 ≤ S 0 0 5 ∧ S 0 0 5 ≤ 9) ∧ (0 ≤ S 0 0 6 ∧ S 0 0 6 ≤ 24) ∧ (0 ≤ S 0 0 7 ∧ S 0 0 7 ≤ 99) ∧ (0 ≤ S 0 0 8 ∧ S 0 0 8 ≤ 24) ∧ (0 ≤ S 0 0 9 ∧ S 0 0 9 ≤ 99) ∧ (0 ≤ S 0 0 10 ∧ S 0 0 10 ≤ 100000) ∧ (0 ≤ S 0 0 11 ∧ S 0 0 11 ≤ 100000)) ∧ ∀ j, j < n 8 → (0 ≤ S 8 j 1 ∧ S 8 j 1 ≤ 999) ∧ (0 ≤ S 8 j 2 ∧ S 8 j 2 < 65536) ∧ (1 ≤ S 8 j 3 ∧ S 8 j 3 ≤ 9) ∧ (0 ≤ S 8 j 4 ∧ S 8 j 4 < 65536) ∧ (0 ≤ S 8 j 5 ∧ S 8 j 5 ≤ 100000) ∧ (0 ≤ S 8 j 6 ∧ S 8 j 6 ≤ 100000)
theorem yWait_R {n : Nat → Nat} {S : ts_St} (h : cR n S) {j : Nat} (hj : j < n 8) : 0 ≤ yWait S j ∧ yWait S j ≤ 100000 := by
  have h1 := h.1
  have h2 := h.2 j hj
  unfold yWait
  split <;> omega
theorem mul_R {a b A B : Int} (ha : 0 ≤ a) (ha2 : a ≤ A) (hb : 0 ≤ b) (hb2 : b ≤ B) : 0 ≤ a * b ∧ a * b ≤ A * B := ⟨Int.mul_nonneg ha hb, Int.mul_le_mul ha2 hb2 hb (Int.le_trans ha ha2)⟩
theorem yChg_R {n : Nat → Nat} {S : ts_St} (h : cR n S) {j : Nat} (hj : j < n 8) : 0 ≤ min (yPaid S j) (S 0 0 8) * S 0 0 7 + (yPaid S j - min (yPaid S j) (S 0 0 8)) * S 0 0 9 ∧ min (yPaid S j) (S 0 0 8) * S 0 0 7 + (yPaid S j - min (yPaid S j) (S 0 0 8)) * S 0 0 9 ≤ 20000000 := by
  have h1 := h.1
  have h2 := yWait_R h hj
  have hp : 0 ≤ yPaid S j ∧ yPaid S j ≤ 100000 := by unfold yPaid; omega
  have e1 := mul_R (a := min (yPaid S j) (S 0 0 8)) (b := S 0 0 7) (A := 100000) (B := 99) (by omega) (by omega) (by omega) (by omega)
  have e2 := mul_R (a := yPaid S j - min (yPaid S j) (S 0 0 8)) (b := S 0 0 9) (A := 100000) (B := 99) (by omega) (by omega) (by omega) (by omega)
  omega
theorem yCharge_R {n : Nat → Nat} {S : ts_St} (h : cR n S) {j : Nat} (hj : j < n 8) : 0 ≤ yCharge S j ∧ yCharge S j ≤ 20000000 := by
  unfold yCharge
  split
  · omega
  · exact yChg_R h hj
theorem yPunc_R (S : ts_St) (j : Nat) : 101 ≤ yPunc S j ∧ yPunc S j ≤ 111 := by
  unfold yPunc
  split
  · omega
  · split <;> omega

set_option maxHeartbeats 4000000 in
set_option maxRecDepth 100000 in
theorem c_X4_appointmentOrThrow (l : Launch) (hfl : l.stackTraces = false) (D : va_G) (cA : Nat → ClassId) (n : Nat → Nat) (am : ts_Am) (S : ts_St) (sz : Nat) (x : Int) (hW : cW n S) (hx0 : iR x) : vx_Met l yX4_appointmentOrThrow wsX4_appointmentOrThrow ({ frames := 6, cells := 1, slots := 6, locals := 90 } : Room) (va_Pc [.ref (am 0 0), .int (iZ x)] (zPX TX D cA (n, am, S) sz)) (zQq TX D cA (n, am, S) sz 8 (fun z u => (0 ≤ z ∧ z = x ∧ x < (n 8 : Int)) ∧ u = (n, am, S))) (zXX TX D cA (n, am, S) sz (fun E => E = xN_NSE ∧ ¬ (0 ≤ x ∧ x < (n 8 : Int)))) 1 6 (ts_A (n, am, S) sz) := by
  refine zMx_of (by decide) rfl (Nat.le_of_ble_eq_true rfl) ?_
  intro p e s m below meth c hx hb hr hts hown hlocks hml hex hK hG hsz H locs hI ls hl
  subst hsz
  have hown : s.vm.findClass RX4 = some m.cls := hown
  have hl : lv_has ls 3 [(0, .ref (am 0 0)), (1, .int (iZ x))] := hl
  have f24 := hts (.fieldLink RX4 24 "DockyardSlots" "appointments" "[LDockyardSlots$Appointment;") (by decide +kernel)
  have f86 := hts (.fieldLink RX4 86 "DockyardSlots" "appointmentCount" "I") (by decide +kernel)
  have LX4 : ∀ w ∈ wsX40, w.before [.ref (am 0 0), .int (iZ x)].toArray s = true := fun w h => hts w (List.mem_cons_of_mem _ (List.mem_append_left _ (List.mem_append_right _ h)))
  have hcn := hW.cn
  have hlim := hW.lim
  refine lv_iload_n hx hb dX4_appointmentOrThrow_0 rfl (lv_at hl 1 rfl) ?_
  refine z_if_lt (tgt := 21) hx hb dX4_appointmentOrThrow_1 (by decide) (by omega) (fun c1 => ?_) (fun c1 => ?_)
  · skip
    exact zx_throw (text := "there is no such appointment") hx hb hfl hown hG hI xC_NSE xF_NSE (hts _ (by decide +kernel)) (hts _ (by decide +kernel)) (fun w h => hts w (List.mem_cons_of_mem _ (List.mem_append_right _ h))) xA_NSE xO_NSE (by decide +kernel) (by rw [hml]; exact hl.1) dX4_appointmentOrThrow_21 dX4_appointmentOrThrow_24 dX4_appointmentOrThrow_25 dX4_appointmentOrThrow_27 dX4_appointmentOrThrow_30 hex (Nat.le_of_ble_eq_true rfl) (Nat.le_of_ble_eq_true rfl) (Nat.le_of_ble_eq_true rfl) (Nat.le_of_ble_eq_true rfl) hlocks ⟨rfl, by omega⟩ (Nat.le_of_ble_eq_true rfl) (Nat.le_of_ble_eq_true rfl)
  · skip
    refine lv_iload_n hx hb dX4_appointmentOrThrow_4 rfl (lv_at hl 1 rfl) ?_
    refine lv_aload_n hx hb dX4_appointmentOrThrow_5 rfl (lv_at hl 0 rfl) ?_
    refine zg_i (κ := 0) (i := 0) (k := 4) hx hb LX4 hown hK hI hW.1.1 rfl rfl (by decide) rfl f86 (fun _ h9 => h9) dX4_appointmentOrThrow_6 rfl (fun b2 => ?_)
    refine z_icmp_ge (tgt := 21) hx hb dX4_appointmentOrThrow_9 (by decide) (by omega) (by omega) (fun c3 => ?_) (fun c3 => ?_)
    · skip
      exact zx_throw (text := "there is no such appointment") hx hb hfl hown hG hI xC_NSE xF_NSE (hts _ (by decide +kernel)) (hts _ (by decide +kernel)) (fun w h => hts w (List.mem_cons_of_mem _ (List.mem_append_right _ h))) xA_NSE xO_NSE (by decide +kernel) (by rw [hml]; exact hl.1) dX4_appointmentOrThrow_21 dX4_appointmentOrThrow_24 dX4_appointmentOrThrow_25 dX4_appointmentOrThrow_27 dX4_appointmentOrThrow_30 hex (Nat.le_of_ble_eq_true rfl) (Nat.le_of_ble_eq_true rfl) (Nat.le_of_ble_eq_true rfl) (Nat.le_of_ble_eq_true rfl) hlocks ⟨rfl, by omega⟩ (Nat.le_of_ble_eq_true rfl) (Nat.le_of_ble_eq_true rfl)
    · skip
      refine lv_iload_n hx hb dX4_appointmentOrThrow_12 rfl (lv_at hl 1 rfl) ?_
      refine lv_aload_n hx hb dX4_appointmentOrThrow_13 rfl (lv_at hl 0 rfl) ?_
      refine zg_r (κ := 0) (i := 0) (k := 3) (t := 4) (j := 0) hx hb LX4 hown hK hI hW.1.1 rfl rfl (by decide) rfl f24 (fun _ h9 => h9) dX4_appointmentOrThrow_14 hW.2.1.2.2.1 (fun v4 => ?_)
      refine zal hx hb hK hI v4 rfl dX4_appointmentOrThrow_17 ?_
      refine z_icmp_lt (tgt := 31) hx hb dX4_appointmentOrThrow_18 (by decide) (by omega) (by omega) (fun c5 => ?_) (fun c5 => ?_)
      · skip
        refine lv_aload_n hx hb dX4_appointmentOrThrow_31 rfl (lv_at hl 0 rfl) ?_
        refine zg_r (κ := 0) (i := 0) (k := 3) (t := 4) (j := 0) hx hb LX4 hown hK hI hW.1.1 rfl rfl (by decide) rfl f24 (fun _ h9 => h9) dX4_appointmentOrThrow_32 hW.2.1.2.2.1 (fun v6 => ?_)
        refine lv_iload_n hx hb dX4_appointmentOrThrow_35 rfl (lv_at hl 1 rfl) ?_
        refine za_r (κ := 4) (i := 0) (t := 8) (k := x.toNat) hx hb hK hI v6 rfl (by omega) (by omega) (by omega) dX4_appointmentOrThrow_36 (hW.aa (by omega)) (fun v7 => ?_)
        refine lv_astore_n (lv' := [(2, .ref (am 8 x.toNat)), (0, .ref (am 0 0)), (1, .int (iZ x))]) hx hb dX4_appointmentOrThrow_37 rfl hl (by decide) rfl (fun ls hl => ?_)
        refine lv_aload_n hx hb dX4_appointmentOrThrow_38 rfl (lv_at hl 0 rfl) ?_
        refine lv_ifnonnull (tgt := 52) hx hb dX4_appointmentOrThrow_39 (by decide) ?_
        refine lv_aload_n hx hb dX4_appointmentOrThrow_52 rfl (lv_at hl 0 rfl) ?_
        exact vx_ret (ze_q (u' := (n, am, S)) (z := (x.toNat : Int)) hx hb hr (Or.inl ⟨_, rfl⟩) hI (ts_V_ref _ _ _).symm (by omega) (Int.ofNat_lt.mpr v7) ⟨⟨by omega, by omega, by omega⟩, rfl⟩ (Nat.le_of_ble_eq_true rfl) (Nat.le_of_ble_eq_true rfl) dX4_appointmentOrThrow_53 hlocks)
      · skip
        exact zx_throw (text := "there is no such appointment") hx hb hfl hown hG hI xC_NSE xF_NSE (hts _ (by decide +kernel)) (hts _ (by decide +kernel)) (fun w h => hts w (List.mem_cons_of_mem _ (List.mem_append_right _ h))) xA_NSE xO_NSE (by decide +kernel) (by rw [hml]; exact hl.1) dX4_appointmentOrThrow_21 dX4_appointmentOrThrow_24 dX4_appointmentOrThrow_25 dX4_appointmentOrThrow_27 dX4_appointmentOrThrow_30 hex (Nat.le_of_ble_eq_true rfl) (Nat.le_of_ble_eq_true rfl) (Nat.le_of_ble_eq_true rfl) (Nat.le_of_ble_eq_true rfl) hlocks ⟨rfl, by omega⟩ (Nat.le_of_ble_eq_true rfl) (Nat.le_of_ble_eq_true rfl)
set_option maxHeartbeats 4000000 in
set_option maxRecDepth 100000 in
theorem c_X4_arrivedOrThrow (l : Launch) (hfl : l.stackTraces = false) (D : va_G) (cA : Nat → ClassId) (n : Nat → Nat) (am : ts_Am) (S : ts_St) (sz : Nat) (x : Int) (hW : cW n S) (hx0 : iR x) : vx_Met l yX4_arrivedOrThrow wsX4_arrivedOrThrow ({ frames := 7, cells := 2, slots := 12, locals := 112 } : Room) (va_Pc [.ref (am 0 0), .int (iZ x)] (zPX TX D cA (n, am, S) sz)) (zQq TX D cA (n, am, S) sz 8 (fun z u => (0 ≤ z ∧ z = x ∧ x < (n 8 : Int) ∧ yCame S x.toNat) ∧ u = (n, am, S))) (zXX TX D cA (n, am, S) sz (fun E => (E = xN_NSE ∧ ¬ (0 ≤ x ∧ x < (n 8 : Int))) ∨ (E = xN_ISE ∧ (0 ≤ x ∧ x < (n 8 : Int)) ∧ ¬ yCame S x.toNat))) 2 12 (ts_A (n, am, S) sz) := by
  refine zMx_of (by decide) rfl (Nat.le_of_ble_eq_true rfl) ?_
  intro p e s m below meth c hx hb hr hts hown hlocks hml hex hK hG hsz H locs hI ls hl
  subst hsz
  have hown : s.vm.findClass RX4 = some m.cls := hown
  have hl : lv_has ls 3 [(0, .ref (am 0 0)), (1, .int (iZ x))] := hl
  have hcn := hW.cn
  have hlim := hW.lim
  refine lv_aload_n hx hb dX4_arrivedOrThrow_0 rfl (lv_at hl 0 rfl) ?_
  refine lv_iload_n hx hb dX4_arrivedOrThrow_1 rfl (lv_at hl 1 rfl) ?_
  refine zxc_q (zxV (As := [.int (iZ x)]) (rest := []) (κ := 0) (i := 0) ⟨hx, hb, hml, hown, hts⟩ (c_X4_appointmentOrThrow l hfl D cA n am S H.size x hW (by omega)) (cwV 1 hts gX4_arrivedOrThrow_X4_appointmentOrThrow rfl rfl rfl (by decide +kernel) ⟨Nat.le_of_ble_eq_true rfl, Nat.le_of_ble_eq_true rfl⟩) hK hI hG hW.1.1 rfl rfl rfl hl.1 rfl (Nat.le_of_ble_eq_true rfl) dX4_arrivedOrThrow_2 ⟨Nat.le_of_ble_eq_true rfl, Nat.le_of_ble_eq_true rfl⟩) hI hex hlocks (fun E q => Or.inl q) (Nat.le_of_ble_eq_true rfl) (Nat.le_of_ble_eq_true rfl) (fun z u q => q.1.1) (fun j1 u9 H locs v2 hp3 hI => ?_)
  obtain ⟨⟨q4, q5, q6⟩, rfl⟩ := hp3
  obtain rfl : j1 = x.toNat := by omega
  have v2 : x.toNat < n 8 := v2
  refine lv_astore_n (lv' := [(2, .ref (am 8 x.toNat)), (0, .ref (am 0 0)), (1, .int (iZ x))]) hx hb dX4_arrivedOrThrow_5 rfl hl (by decide) rfl (fun ls hl => ?_)
  refine lv_aload_n hx hb dX4_arrivedOrThrow_6 rfl (lv_at hl 0 rfl) ?_
  refine zc_i (zrV (As := []) (rest := []) (κ := 8) (i := x.toNat) ⟨hx, hb, hml, hown, hts⟩ (c_X0_hasArrived l D cA n am S H.size x.toNat v2) (cwV 0 hts gX4_arrivedOrThrow_X0_hasArrived rfl rfl rfl (by decide +kernel) ⟨Nat.le_of_ble_eq_true rfl, Nat.le_of_ble_eq_true rfl⟩) hK hI v2 rfl rfl rfl hl.1 rfl (Nat.le_of_ble_eq_true rfl) dX4_arrivedOrThrow_7 ⟨Nat.le_of_ble_eq_true rfl, Nat.le_of_ble_eq_true rfl⟩) hI (fun z7 u9 H locs hz8 hp9 hI hfr => ?_)
  clear hfr
  obtain ⟨rfl, rfl⟩ := hp9
  refine z_if_ne (tgt := 23) hx hb dX4_arrivedOrThrow_10 (by decide) (by omega) (fun c10 => ?_) (fun c10 => ?_)
  · skip
    have c10 := zB_1 c10
    refine lv_aload_n hx hb dX4_arrivedOrThrow_23 rfl (lv_at hl 0 rfl) ?_
    exact vx_ret (ze_q (u' := (n, am, S)) (z := (x.toNat : Int)) hx hb hr (Or.inl ⟨_, rfl⟩) hI (ts_V_ref _ _ _).symm (by omega) (Int.ofNat_lt.mpr v2) ⟨⟨by omega, by omega, by omega, c10⟩, rfl⟩ (Nat.le_of_ble_eq_true rfl) (Nat.le_of_ble_eq_true rfl) dX4_arrivedOrThrow_24 hlocks)
  · skip
    have c10 := zB_0 c10
    exact zx_throw (text := "the trailer has not arrived") hx hb hfl hown hG hI xC_ISE xF_ISE (hts _ (by decide +kernel)) (hts _ (by decide +kernel)) (fun w h => hts w (List.mem_cons_of_mem _ (List.mem_append_left _ (List.mem_append_right _ h)))) xA_ISE xO_ISE (by decide +kernel) (by rw [hml]; exact hl.1) dX4_arrivedOrThrow_13 dX4_arrivedOrThrow_16 dX4_arrivedOrThrow_17 dX4_arrivedOrThrow_19 dX4_arrivedOrThrow_22 hex (Nat.le_of_ble_eq_true rfl) (Nat.le_of_ble_eq_true rfl) (Nat.le_of_ble_eq_true rfl) (Nat.le_of_ble_eq_true rfl) hlocks (Or.inr ⟨rfl, by omega, c10⟩) (Nat.le_of_ble_eq_true rfl) (Nat.le_of_ble_eq_true rfl)
set_option maxHeartbeats 4000000 in
set_option maxRecDepth 100000 in
theorem c_X4_laneOrThrow (l : Launch) (hfl : l.stackTraces = false) (D : va_G) (cA : Nat → ClassId) (n : Nat → Nat) (am : ts_Am) (S : ts_St) (sz : Nat) (x : Int) (hW : cW n S) (hx0 : iR x) : vx_Met l yX4_laneOrThrow wsX4_laneOrThrow ({ frames := 6, cells := 1, slots := 6, locals := 90 } : Room) (va_Pc [.ref (am 0 0), .int (iZ x)] (zPX TX D cA (n, am, S) sz)) (zQq TX D cA (n, am, S) sz 5 (fun z u => (0 ≤ z ∧ z = x ∧ x < (n 5 : Int)) ∧ u = (n, am, S))) (zXX TX D cA (n, am, S) sz (fun E => E = xN_IOB ∧ ¬ (0 ≤ x ∧ x < (n 5 : Int)))) 1 6 (ts_A (n, am, S) sz) := by
  refine zMx_of (by decide) rfl (Nat.le_of_ble_eq_true rfl) ?_
  intro p e s m below meth c hx hb hr hts hown hlocks hml hex hK hG hsz H locs hI ls hl
  subst hsz
  have hown : s.vm.findClass RX4 = some m.cls := hown
  have hl : lv_has ls 3 [(0, .ref (am 0 0)), (1, .int (iZ x))] := hl
  have f10 := hts (.fieldLink RX4 10 "DockyardSlots" "lanes" "LDockyardSlots$LaneRow;") (by decide +kernel)
  have LX4 : ∀ w ∈ wsX40, w.before [.ref (am 0 0), .int (iZ x)].toArray s = true := fun w h => hts w (List.mem_cons_of_mem _ (List.mem_append_left _ (List.mem_append_left _ (List.mem_append_right _ h))))
  have hcn := hW.cn
  have hlim := hW.lim
  refine lv_aload_n hx hb dX4_laneOrThrow_0 rfl (lv_at hl 0 rfl) ?_
  refine zg_r (κ := 0) (i := 0) (k := 0) (t := 1) (j := 0) hx hb LX4 hown hK hI hW.1.1 rfl rfl (by decide) rfl f10 (fun _ h9 => h9) dX4_laneOrThrow_1 hW.2.1.1 (fun v1 => ?_)
  refine lv_iload_n hx hb dX4_laneOrThrow_4 rfl (lv_at hl 1 rfl) ?_
  refine zc_q (zrV (As := [.int (iZ x)]) (rest := []) (κ := 1) (i := 0) ⟨hx, hb, hml, hown, hts⟩ (c_X3_laneAt l D cA n am S H.size x hW (by omega)) (cwV 1 hts gX4_laneOrThrow_X3_laneAt rfl rfl rfl (by decide +kernel) ⟨Nat.le_of_ble_eq_true rfl, Nat.le_of_ble_eq_true rfl⟩) hK hI v1 rfl rfl rfl hl.1 rfl (Nat.le_of_ble_eq_true rfl) dX4_laneOrThrow_5 ⟨Nat.le_of_ble_eq_true rfl, Nat.le_of_ble_eq_true rfl⟩) hI (fun u9 H locs hp4 hI hfr => ?_) (fun j5 u9 H locs v6 hp4 hI hfr => ?_)
  · clear hfr
    obtain ⟨ez2, rfl⟩ := hp4
    refine lv_astore_nN (lv' := [(2, .null), (0, .ref (am 0 0)), (1, .int (iZ x))]) hx hb dX4_laneOrThrow_8 rfl hl (by decide) rfl (fun ls hl => ?_)
    refine lv_aload_nN hx hb dX4_laneOrThrow_9 rfl (lv_at hl 0 rfl) ?_
    refine lv_ifnonnullN hx hb dX4_laneOrThrow_10 ?_
    exact zx_throw (text := "there is no such lane") hx hb hfl hown hG hI xC_IOB xF_IOB (hts _ (by decide +kernel)) (hts _ (by decide +kernel)) (fun w h => hts w (List.mem_cons_of_mem _ (List.mem_append_right _ h))) xA_IOB xO_IOB (by decide +kernel) (by rw [hml]; exact hl.1) dX4_laneOrThrow_13 dX4_laneOrThrow_16 dX4_laneOrThrow_17 dX4_laneOrThrow_19 dX4_laneOrThrow_22 hex (Nat.le_of_ble_eq_true rfl) (Nat.le_of_ble_eq_true rfl) (Nat.le_of_ble_eq_true rfl) (Nat.le_of_ble_eq_true rfl) hlocks ⟨rfl, fun q => by have := yLane_W hW q.1 q.2; omega⟩ (Nat.le_of_ble_eq_true rfl) (Nat.le_of_ble_eq_true rfl)
  · clear hfr
    obtain ⟨ej5, rfl⟩ := hp4
    have v6 : j5 < n 5 := v6
    refine lv_astore_n (lv' := [(2, .ref (am 5 j5)), (0, .ref (am 0 0)), (1, .int (iZ x))]) hx hb dX4_laneOrThrow_8 rfl hl (by decide) rfl (fun ls hl => ?_)
    refine lv_aload_n hx hb dX4_laneOrThrow_9 rfl (lv_at hl 0 rfl) ?_
    refine lv_ifnonnull (tgt := 23) hx hb dX4_laneOrThrow_10 (by decide) ?_
    refine lv_aload_n hx hb dX4_laneOrThrow_23 rfl (lv_at hl 0 rfl) ?_
    exact vx_ret (ze_q (u' := (n, am, S)) (z := (j5 : Int)) hx hb hr (Or.inl ⟨_, rfl⟩) hI (ts_V_ref _ _ _).symm (by omega) (Int.ofNat_lt.mpr v6) ⟨by have := yLane_in hW (x := x) (by omega); exact ⟨by omega, by omega, by omega⟩, rfl⟩ (Nat.le_of_ble_eq_true rfl) (Nat.le_of_ble_eq_true rfl) dX4_laneOrThrow_24 hlocks)
set_option maxHeartbeats 4000000 in
set_option maxRecDepth 100000 in
theorem c_X4_homeOrThrow (l : Launch) (hfl : l.stackTraces = false) (D : va_G) (cA : Nat → ClassId) (n : Nat → Nat) (am : ts_Am) (S : ts_St) (sz : Nat) (j : Nat) (hW : cW n S) (hj : j < n 8) : vx_Met l yX4_homeOrThrow wsX4_homeOrThrow ({ frames := 6, cells := 1, slots := 6, locals := 90 } : Room) (va_Pc [.ref (am 8 j)] (zPX TX D cA (n, am, S) sz)) (zQq TX D cA (n, am, S) sz 5 (fun z u => (0 ≤ z ∧ z = S 8 j 7) ∧ u = (n, am, S))) (zXX TX D cA (n, am, S) sz (fun E => E = xN_ISE ∧ S 8 j 7 < 0)) 1 6 (ts_A (n, am, S) sz) := by
  refine zMx_of (by decide) rfl (Nat.le_of_ble_eq_true rfl) ?_
  intro p e s m below meth c hx hb hr hts hown hlocks hml hex hK hG hsz H locs hI ls hl
  subst hsz
  have hown : s.vm.findClass RX4 = some m.cls := hown
  have hl : lv_has ls 2 [(0, .ref (am 8 j))] := hl
  have f252 := hts (.fieldLink RX4 252 "DockyardSlots$Appointment" "lane" "LDockyardSlots$Lane;") (by decide +kernel)
  have LX0 : ∀ w ∈ wsX00, w.before [.ref (am 8 j)].toArray s = true := fun w h => hts w (List.mem_cons_of_mem _ (List.mem_append_left _ (List.mem_append_right _ h)))
  have hcn := hW.cn
  have hlim := hW.lim
  refine lv_aload_n hx hb dX4_homeOrThrow_0 rfl (lv_at hl 0 rfl) ?_
  refine zg_q (κ := 8) (i := j) (k := 7) (t := 5) hx hb LX0 hown hK hI hj rfl rfl (by decide) rfl f252 (fun _ h9 => h9) dX4_homeOrThrow_1 (fun q1 => ?_) (fun j4 q2 v3 => ?_)
  · skip
    refine lv_astore_nN (lv' := [(1, .null), (0, .ref (am 8 j))]) hx hb dX4_homeOrThrow_4 rfl hl (by decide) rfl (fun ls hl => ?_)
    refine lv_aload_nN hx hb dX4_homeOrThrow_5 rfl (lv_at hl 0 rfl) ?_
    refine lv_ifnonnullN hx hb dX4_homeOrThrow_6 ?_
    exact zx_throwW (text := "the trailer is not in a lane") hx hb hfl hown hG hI xC_ISE xF_ISE (hts _ (by decide +kernel)) (hts _ (by decide +kernel)) (fun w h => hts w (List.mem_cons_of_mem _ (List.mem_append_right _ h))) xA_ISE xO_ISE (by decide +kernel) (by rw [hml]; exact hl.1) dX4_homeOrThrow_9 dX4_homeOrThrow_12 dX4_homeOrThrow_13 dX4_homeOrThrow_16 dX4_homeOrThrow_19 hex (Nat.le_of_ble_eq_true rfl) (Nat.le_of_ble_eq_true rfl) (Nat.le_of_ble_eq_true rfl) (Nat.le_of_ble_eq_true rfl) hlocks ⟨rfl, by omega⟩ (Nat.le_of_ble_eq_true rfl) (Nat.le_of_ble_eq_true rfl)
  · skip
    refine lv_astore_n (lv' := [(1, .ref (am 5 j4)), (0, .ref (am 8 j))]) hx hb dX4_homeOrThrow_4 rfl hl (by decide) rfl (fun ls hl => ?_)
    refine lv_aload_n hx hb dX4_homeOrThrow_5 rfl (lv_at hl 0 rfl) ?_
    refine lv_ifnonnull (tgt := 20) hx hb dX4_homeOrThrow_6 (by decide) ?_
    refine lv_aload_n hx hb dX4_homeOrThrow_20 rfl (lv_at hl 0 rfl) ?_
    exact vx_ret (ze_q (u' := (n, am, S)) (z := (j4 : Int)) hx hb hr (Or.inl ⟨_, rfl⟩) hI (ts_V_ref _ _ _).symm (by omega) (Int.ofNat_lt.mpr v3) ⟨⟨by omega, by omega⟩, rfl⟩ (Nat.le_of_ble_eq_true rfl) (Nat.le_of_ble_eq_true rfl) dX4_homeOrThrow_21 hlocks)
set_option maxHeartbeats 4000000 in
set_option maxRecDepth 100000 in
theorem c_X4_homeOfReachedOrThrow (l : Launch) (hfl : l.stackTraces = false) (D : va_G) (cA : Nat → ClassId) (n : Nat → Nat) (am : ts_Am) (S : ts_St) (sz : Nat) (j : Nat) (hW : cW n S) (hj : j < n 8) : vx_Met l yX4_homeOfReachedOrThrow wsX4_homeOfReachedOrThrow ({ frames := 7, cells := 2, slots := 12, locals := 111 } : Room) (va_Pc [.ref (am 8 j)] (zPX TX D cA (n, am, S) sz)) (zQq TX D cA (n, am, S) sz 5 (fun z u => (0 ≤ z ∧ z = S 8 j 7 ∧ yBefore S (S 8 j 7).toNat j = 0) ∧ u = (n, am, S))) (zXX TX D cA (n, am, S) sz (fun E => E = xN_ISE ∧ ¬ (0 ≤ S 8 j 7 ∧ yBefore S (S 8 j 7).toNat j = 0))) 2 12 (ts_A (n, am, S) sz) := by
  refine zMx_of (by decide) rfl (Nat.le_of_ble_eq_true rfl) ?_
  intro p e s m below meth c hx hb hr hts hown hlocks hml hex hK hG hsz H locs hI ls hl
  subst hsz
  have hown : s.vm.findClass RX4 = some m.cls := hown
  have hl : lv_has ls 2 [(0, .ref (am 8 j))] := hl
  have hcn := hW.cn
  have hlim := hW.lim
  refine lv_aload_n hx hb dX4_homeOfReachedOrThrow_0 rfl (lv_at hl 0 rfl) ?_
  refine zxc_q (zxS (As := [.ref (am 8 j)]) (rest := []) ⟨hx, hb, hml, hown, hts⟩ (c_X4_homeOrThrow l hfl D cA n am S H.size j hW hj) (va_cwS 1 hts gX4_homeOfReachedOrThrow_X4_homeOrThrow rfl rfl rfl (by decide +kernel) ⟨Nat.le_of_ble_eq_true rfl, Nat.le_of_ble_eq_true rfl⟩) hK hI hG rfl hl.1 rfl (Nat.le_of_ble_eq_true rfl) dX4_homeOfReachedOrThrow_1 ⟨Nat.le_of_ble_eq_true rfl, Nat.le_of_ble_eq_true rfl⟩) hI hex hlocks (fun E q => ⟨q.1, fun z => by have := q.2; omega⟩) (Nat.le_of_ble_eq_true rfl) (Nat.le_of_ble_eq_true rfl) (fun z u q => q.1.1) (fun j1 u9 H locs v2 hp3 hI => ?_)
  obtain ⟨⟨q4, q5⟩, rfl⟩ := hp3
  obtain rfl : j1 = (S 8 j 7).toNat := by omega
  have v2 : (S 8 j 7).toNat < n 5 := v2
  refine lv_astore_n (lv' := [(1, .ref (am 5 ((S 8 j 7).toNat))), (0, .ref (am 8 j))]) hx hb dX4_homeOfReachedOrThrow_4 rfl hl (by decide) rfl (fun ls hl => ?_)
  refine lv_aload_n hx hb dX4_homeOfReachedOrThrow_5 rfl (lv_at hl 0 rfl) ?_
  refine lv_aload_n hx hb dX4_homeOfReachedOrThrow_6 rfl (lv_at hl 1 rfl) ?_
  refine zc_i (zrV (As := [.ref (am 8 j)]) (rest := []) (κ := 5) (i := ((S 8 j 7).toNat)) ⟨hx, hb, hml, hown, hts⟩ (c_X2_countBefore l D cA n am S H.size ((S 8 j 7).toNat) j v2 hj) (cwV 1 hts gX4_homeOfReachedOrThrow_X2_countBefore rfl rfl rfl (by decide +kernel) ⟨Nat.le_of_ble_eq_true rfl, Nat.le_of_ble_eq_true rfl⟩) hK hI v2 rfl rfl rfl hl.1 rfl (Nat.le_of_ble_eq_true rfl) dX4_homeOfReachedOrThrow_7 ⟨Nat.le_of_ble_eq_true rfl, Nat.le_of_ble_eq_true rfl⟩) hI (fun z6 u9 H locs hz7 hp8 hI hfr => ?_)
  clear hfr
  obtain ⟨rfl, rfl⟩ := hp8
  refine z_if_eq (tgt := 24) hx hb dX4_homeOfReachedOrThrow_10 (by decide) (by unfold yBefore; have := hI.1.2.2.1 5 (S 8 j 7).toNat 4 (by decide); have := hI.1.2.2.1 8 j 8 (by decide); dsimp only at *; omega) (fun c9 => ?_) (fun c9 => ?_)
  · skip
    refine lv_aload_n hx hb dX4_homeOfReachedOrThrow_24 rfl (lv_at hl 0 rfl) ?_
    exact vx_ret (ze_q (u' := (n, am, S)) (z := ((S 8 j 7).toNat : Int)) hx hb hr (Or.inl ⟨_, rfl⟩) hI (ts_V_ref _ _ _).symm (by omega) (Int.ofNat_lt.mpr v2) ⟨⟨by omega, by omega, by omega⟩, rfl⟩ (Nat.le_of_ble_eq_true rfl) (Nat.le_of_ble_eq_true rfl) dX4_homeOfReachedOrThrow_25 hlocks)
  · skip
    exact zx_throwW (text := "the trailer is not reached") hx hb hfl hown hG hI xC_ISE xF_ISE (hts _ (by decide +kernel)) (hts _ (by decide +kernel)) (fun w h => hts w (List.mem_cons_of_mem _ (List.mem_append_right _ h))) xA_ISE xO_ISE (by decide +kernel) (by rw [hml]; exact hl.1) dX4_homeOfReachedOrThrow_13 dX4_homeOfReachedOrThrow_16 dX4_homeOfReachedOrThrow_17 dX4_homeOfReachedOrThrow_20 dX4_homeOfReachedOrThrow_23 hex (Nat.le_of_ble_eq_true rfl) (Nat.le_of_ble_eq_true rfl) (Nat.le_of_ble_eq_true rfl) (Nat.le_of_ble_eq_true rfl) hlocks ⟨rfl, fun z => by omega⟩ (Nat.le_of_ble_eq_true rfl) (Nat.le_of_ble_eq_true rfl)
set_option maxHeartbeats 4000000 in
set_option maxRecDepth 100000 in
theorem c_X4_doorAt (l : Launch) (D : va_G) (cA : Nat → ClassId) (n : Nat → Nat) (am : ts_Am) (S : ts_St) (sz : Nat) (x : Int) (hW : cW n S) (hx0 : iR x) : Met l yX4_doorAt wsX4_doorAt ({ frames := 0, cells := 0, slots := 0, locals := 0 } : Room) (va_Pc [.ref (am 0 0), .int (iZ x)] (zP TX D cA (n, am, S) sz)) (zQq TX D cA (n, am, S) sz 7 (fun z u => z = (if 0 ≤ x ∧ x < (n 7 : Int) then x else -1) ∧ u = (n, am, S))) 0 0 (ts_A (n, am, S) sz) := by
  refine zM_of (by decide) rfl (Nat.le_of_ble_eq_true rfl) ?_
  intro p e s m below meth c hx hb hr hts hown hlocks hml hname hK hsz H locs hI ls hl
  subst hsz
  have hown : s.vm.findClass RX4 = some m.cls := hown
  have hl : lv_has ls 2 [(0, .ref (am 0 0)), (1, .int (iZ x))] := hl
  have f18 := hts (.fieldLink RX4 18 "DockyardSlots" "doors" "[LDockyardSlots$Door;") (by decide +kernel)
  have f69 := hts (.fieldLink RX4 69 "DockyardSlots" "doorCount" "I") (by decide +kernel)
  have LX4 : ∀ w ∈ wsX40, w.before [.ref (am 0 0), .int (iZ x)].toArray s = true := fun w h => hts w (List.mem_cons_of_mem _ (List.mem_append_right _ h))
  have hcn := hW.cn
  have hlim := hW.lim
  refine lv_iload_n hx hb dX4_doorAt_0 rfl (lv_at hl 1 rfl) ?_
  refine z_if_lt (tgt := 21) hx hb dX4_doorAt_1 (by decide) (by omega) (fun c1 => ?_) (fun c1 => ?_)
  · skip
    refine lv_null hx hb dX4_doorAt_21 ?_
    exact (ze_q (u' := (n, am, S)) (z := -1) hx hb hr (Or.inl ⟨_, rfl⟩) hI (ts_rf_n (by decide)).symm (by decide) (by omega) ⟨by rw [if_neg (by omega)], rfl⟩ (Nat.le_of_ble_eq_true rfl) (Nat.le_of_ble_eq_true rfl) dX4_doorAt_22 hlocks)
  · skip
    refine lv_iload_n hx hb dX4_doorAt_4 rfl (lv_at hl 1 rfl) ?_
    refine lv_aload_n hx hb dX4_doorAt_5 rfl (lv_at hl 0 rfl) ?_
    refine zg_i (κ := 0) (i := 0) (k := 2) hx hb LX4 hown hK hI hW.1.1 rfl rfl (by decide) rfl f69 (fun _ h9 => h9) dX4_doorAt_6 rfl (fun b2 => ?_)
    refine z_icmp_ge (tgt := 21) hx hb dX4_doorAt_9 (by decide) (by omega) (by omega) (fun c3 => ?_) (fun c3 => ?_)
    · skip
      refine lv_null hx hb dX4_doorAt_21 ?_
      exact (ze_q (u' := (n, am, S)) (z := -1) hx hb hr (Or.inl ⟨_, rfl⟩) hI (ts_rf_n (by decide)).symm (by decide) (by omega) ⟨by rw [if_neg (by omega)], rfl⟩ (Nat.le_of_ble_eq_true rfl) (Nat.le_of_ble_eq_true rfl) dX4_doorAt_22 hlocks)
    · skip
      refine lv_iload_n hx hb dX4_doorAt_12 rfl (lv_at hl 1 rfl) ?_
      refine lv_aload_n hx hb dX4_doorAt_13 rfl (lv_at hl 0 rfl) ?_
      refine zg_r (κ := 0) (i := 0) (k := 1) (t := 3) (j := 0) hx hb LX4 hown hK hI hW.1.1 rfl rfl (by decide) rfl f18 (fun _ h9 => h9) dX4_doorAt_14 hW.2.1.2.1 (fun v4 => ?_)
      refine zal hx hb hK hI v4 rfl dX4_doorAt_17 ?_
      refine z_icmp_lt (tgt := 23) hx hb dX4_doorAt_18 (by decide) (by omega) (by omega) (fun c5 => ?_) (fun c5 => ?_)
      · skip
        refine lv_aload_n hx hb dX4_doorAt_23 rfl (lv_at hl 0 rfl) ?_
        refine zg_r (κ := 0) (i := 0) (k := 1) (t := 3) (j := 0) hx hb LX4 hown hK hI hW.1.1 rfl rfl (by decide) rfl f18 (fun _ h9 => h9) dX4_doorAt_24 hW.2.1.2.1 (fun v6 => ?_)
        refine lv_iload_n hx hb dX4_doorAt_27 rfl (lv_at hl 1 rfl) ?_
        refine za_r (κ := 3) (i := 0) (t := 7) (k := x.toNat) hx hb hK hI v6 rfl (by omega) (by omega) (by omega) dX4_doorAt_28 (hW.da (by omega)) (fun v7 => ?_)
        exact (ze_q (u' := (n, am, S)) (z := (x.toNat : Int)) hx hb hr (Or.inl ⟨_, rfl⟩) hI (ts_V_ref _ _ _).symm (by omega) (Int.ofNat_lt.mpr v7) ⟨by rw [if_pos (by omega)]; omega, rfl⟩ (Nat.le_of_ble_eq_true rfl) (Nat.le_of_ble_eq_true rfl) dX4_doorAt_29 hlocks)
      · skip
        refine lv_null hx hb dX4_doorAt_21 ?_
        exact (ze_q (u' := (n, am, S)) (z := -1) hx hb hr (Or.inl ⟨_, rfl⟩) hI (ts_rf_n (by decide)).symm (by decide) (by omega) ⟨by rw [if_neg (by omega)], rfl⟩ (Nat.le_of_ble_eq_true rfl) (Nat.le_of_ble_eq_true rfl) dX4_doorAt_22 hlocks)
set_option maxHeartbeats 4000000 in
set_option maxRecDepth 100000 in
theorem c_X4_punctualityOf (l : Launch) (D : va_G) (cA : Nat → ClassId) (n : Nat → Nat) (am : ts_Am) (S : ts_St) (sz : Nat) (j : Nat) (hW : cW n S) (hj : j < n 8) : Met l yX4_punctualityOf wsX4_punctualityOf ({ frames := 0, cells := 0, slots := 0, locals := 0 } : Room) (va_Pc [.ref (am 0 0), .ref (am 8 j)] (zP TX D cA (n, am, S) sz)) (zQi TX D cA (n, am, S) sz (fun z u => z = yPunc S j ∧ u = (n, am, S))) 0 0 (ts_A (n, am, S) sz) := by
  refine zM_of (by decide) rfl (Nat.le_of_ble_eq_true rfl) ?_
  intro p e s m below meth c hx hb hr hts hown hlocks hml hname hK hsz H locs hI ls hl
  subst hsz
  have hown : s.vm.findClass RX4 = some m.cls := hown
  have hl : lv_has ls 3 [(0, .ref (am 0 0)), (1, .ref (am 8 j))] := hl
  have f129 := hts (.fieldLink RX4 129 "DockyardSlots$Appointment" "arrivedAt" "I") (by decide +kernel)
  have f139 := hts (.fieldLink RX4 139 "DockyardSlots$Appointment" "hour" "I") (by decide +kernel)
  have f28 := hts (.fieldLink RX4 28 "DockyardSlots" "tolerance" "I") (by decide +kernel)
  have LX0 : ∀ w ∈ wsX00, w.before [.ref (am 0 0), .ref (am 8 j)].toArray s = true := fun w h => hts w (List.mem_cons_of_mem _ (List.mem_append_left _ (List.mem_append_right _ h)))
  have LX4 : ∀ w ∈ wsX40, w.before [.ref (am 0 0), .ref (am 8 j)].toArray s = true := fun w h => hts w (List.mem_cons_of_mem _ (List.mem_append_right _ h))
  have hcn := hW.cn
  have hlim := hW.lim
  refine lv_aload_n hx hb dX4_punctualityOf_0 rfl (lv_at hl 1 rfl) ?_
  refine zg_i (κ := 8) (i := j) (k := 5) hx hb LX0 hown hK hI hj rfl rfl (by decide) rfl f129 (fun _ h9 => h9) dX4_punctualityOf_1 rfl (fun b1 => ?_)
  refine lv_aload_n hx hb dX4_punctualityOf_4 rfl (lv_at hl 1 rfl) ?_
  refine zg_i (κ := 8) (i := j) (k := 1) hx hb LX0 hown hK hI hj rfl rfl (by decide) rfl f139 (fun _ h9 => h9) dX4_punctualityOf_5 rfl (fun b2 => ?_)
  refine z_isub hx hb dX4_punctualityOf_8 ?_
  refine lv_istore_n (lv' := [(2, .int (iZ (S 8 j 5 - S 8 j 1))), (0, .ref (am 0 0)), (1, .ref (am 8 j))]) hx hb dX4_punctualityOf_9 rfl hl (by decide) rfl (fun ls hl => ?_)
  refine lv_iload_n hx hb dX4_punctualityOf_10 rfl (lv_at hl 0 rfl) ?_
  refine lv_aload_n hx hb dX4_punctualityOf_11 rfl (lv_at hl 1 rfl) ?_
  refine zg_i (κ := 0) (i := 0) (k := 5) hx hb LX4 hown hK hI hW.1.1 rfl rfl (by decide) rfl f28 (fun _ h9 => h9) dX4_punctualityOf_12 rfl (fun b3 => ?_)
  refine z_icmp_le (tgt := 21) hx hb dX4_punctualityOf_15 (by decide) (by omega) (by omega) (fun c4 => ?_) (fun c4 => ?_)
  · skip
    refine lv_iload_n hx hb dX4_punctualityOf_21 rfl (lv_at hl 0 rfl) ?_
    refine z_ineg hx hb dX4_punctualityOf_22 ?_
    refine lv_aload_n hx hb dX4_punctualityOf_23 rfl (lv_at hl 1 rfl) ?_
    refine zg_i (κ := 0) (i := 0) (k := 5) hx hb LX4 hown hK hI hW.1.1 rfl rfl (by decide) rfl f28 (fun _ h9 => h9) dX4_punctualityOf_24 rfl (fun b5 => ?_)
    refine z_icmp_le (tgt := 35) hx hb dX4_punctualityOf_27 (by decide) (by omega) (by omega) (fun c6 => ?_) (fun c6 => ?_)
    · skip
      refine z_bipush hx hb dX4_punctualityOf_35 (by decide) ?_
      exact (ze_i (u' := (n, am, S)) (z := 111) hx hb hr (iZ_narc (by omega) (by omega)).1 hI (by omega) ⟨by unfold yPunc; repeat (first | rw [if_pos (by omega)] | rw [if_neg (by omega)]), rfl⟩ (Nat.le_of_ble_eq_true rfl) (Nat.le_of_ble_eq_true rfl) dX4_punctualityOf_37 hlocks)
    · skip
      refine z_bipush hx hb dX4_punctualityOf_30 (by decide) ?_
      refine lv_goto (tgt := 37) hx hb dX4_punctualityOf_32 (by decide) ?_
      exact (ze_i (u' := (n, am, S)) (z := 101) hx hb hr (iZ_narc (by omega) (by omega)).1 hI (by omega) ⟨by unfold yPunc; repeat (first | rw [if_pos (by omega)] | rw [if_neg (by omega)]), rfl⟩ (Nat.le_of_ble_eq_true rfl) (Nat.le_of_ble_eq_true rfl) dX4_punctualityOf_37 hlocks)
  · skip
    refine z_bipush hx hb dX4_punctualityOf_18 (by decide) ?_
    exact (ze_i (u' := (n, am, S)) (z := 108) hx hb hr (iZ_narc (by omega) (by omega)).1 hI (by omega) ⟨by unfold yPunc; repeat (first | rw [if_pos (by omega)] | rw [if_neg (by omega)]), rfl⟩ (Nat.le_of_ble_eq_true rfl) (Nat.le_of_ble_eq_true rfl) dX4_punctualityOf_20 hlocks)
set_option maxHeartbeats 4000000 in
set_option maxRecDepth 100000 in
theorem c_X4_waitingHours (l : Launch) (D : va_G) (cA : Nat → ClassId) (n : Nat → Nat) (am : ts_Am) (S : ts_St) (sz : Nat) (j : Nat) (hW : cW n S) (hj : j < n 8) : Met l yX4_waitingHours wsX4_waitingHours ({ frames := 1, cells := 0, slots := 0, locals := 40 } : Room) (va_Pc [.ref (am 0 0), .ref (am 8 j)] (zP TX D cA (n, am, S) sz)) (zQi TX D cA (n, am, S) sz (fun z u => z = yWait S j ∧ u = (n, am, S))) 0 0 (ts_A (n, am, S) sz) := by
  refine zM_of (by decide) rfl (Nat.le_of_ble_eq_true rfl) ?_
  intro p e s m below meth c hx hb hr hts hown hlocks hml hname hK hsz H locs hI ls hl
  subst hsz
  have hown : s.vm.findClass RX4 = some m.cls := hown
  have hl : lv_has ls 4 [(0, .ref (am 0 0)), (1, .ref (am 8 j))] := hl
  have f102 := hts (.fieldLink RX4 102 "DockyardSlots$Appointment" "state" "C") (by decide +kernel)
  have f129 := hts (.fieldLink RX4 129 "DockyardSlots$Appointment" "arrivedAt" "I") (by decide +kernel)
  have f139 := hts (.fieldLink RX4 139 "DockyardSlots$Appointment" "hour" "I") (by decide +kernel)
  have f184 := hts (.fieldLink RX4 184 "DockyardSlots$Appointment" "dockedAt" "I") (by decide +kernel)
  have f81 := hts (.fieldLink RX4 81 "DockyardSlots" "now" "I") (by decide +kernel)
  have LX0 : ∀ w ∈ wsX00, w.before [.ref (am 0 0), .ref (am 8 j)].toArray s = true := fun w h => hts w (List.mem_cons_of_mem _ (List.mem_append_left _ (List.mem_append_right _ h)))
  have LX4 : ∀ w ∈ wsX40, w.before [.ref (am 0 0), .ref (am 8 j)].toArray s = true := fun w h => hts w (List.mem_cons_of_mem _ (List.mem_append_right _ h))
  have hcn := hW.cn
  have hlim := hW.lim
  refine lv_aload_n hx hb dX4_waitingHours_0 rfl (lv_at hl 1 rfl) ?_
  refine zg_i (κ := 8) (i := j) (k := 5) hx hb LX0 hown hK hI hj rfl rfl (by decide) rfl f129 (fun _ h9 => h9) dX4_waitingHours_1 rfl (fun b1 => ?_)
  refine lv_aload_n hx hb dX4_waitingHours_4 rfl (lv_at hl 1 rfl) ?_
  refine zg_i (κ := 8) (i := j) (k := 1) hx hb LX0 hown hK hI hj rfl rfl (by decide) rfl f139 (fun _ h9 => h9) dX4_waitingHours_5 rfl (fun b2 => ?_)
  refine z_max hx hb (by rw [hml]; exact hl.1.symm) hown (hts _ (by decide +kernel)) (hts _ (by decide +kernel)) (hts _ (by decide +kernel)) (hts _ (by decide +kernel)) (Nat.le_of_ble_eq_true rfl) (Nat.le_of_ble_eq_true rfl) (Nat.le_of_ble_eq_true rfl) (Nat.le_of_ble_eq_true rfl) (by omega) (by omega) dX4_waitingHours_8 ?_
  refine lv_istore_n (lv' := [(2, .int (iZ (max (S 8 j 5) (S 8 j 1)))), (0, .ref (am 0 0)), (1, .ref (am 8 j))]) hx hb dX4_waitingHours_11 rfl hl (by decide) rfl (fun ls hl => ?_)
  refine lv_aload_n hx hb dX4_waitingHours_12 rfl (lv_at hl 2 rfl) ?_
  refine zg_i (κ := 8) (i := j) (k := 4) hx hb LX0 hown hK hI hj rfl rfl (by decide) rfl f102 (fun _ h9 => h9) dX4_waitingHours_13 rfl (fun b3 => ?_)
  refine z_bipush hx hb dX4_waitingHours_16 (by decide) ?_
  refine z_icmp_ne (tgt := 28) hx hb dX4_waitingHours_18 (by decide) (by omega) (by omega) (fun c4 => ?_) (fun c4 => ?_)
  · skip
    refine lv_aload_n hx hb dX4_waitingHours_28 rfl (lv_at hl 2 rfl) ?_
    refine zg_i (κ := 8) (i := j) (k := 6) hx hb LX0 hown hK hI hj rfl rfl (by decide) rfl f184 (fun _ h9 => h9) dX4_waitingHours_29 rfl (fun b5 => ?_)
    refine lv_istore_n (lv' := [(3, .int (iZ (S 8 j 6))), (2, .int (iZ (max (S 8 j 5) (S 8 j 1)))), (0, .ref (am 0 0)), (1, .ref (am 8 j))]) hx hb dX4_waitingHours_32 rfl hl (by decide) rfl (fun ls hl => ?_)
    refine z_iconst hx hb dX4_waitingHours_33 ?_
    refine lv_iload_n hx hb dX4_waitingHours_34 rfl (lv_at hl 0 rfl) ?_
    refine lv_iload_n hx hb dX4_waitingHours_35 rfl (lv_at hl 1 rfl) ?_
    refine z_isub hx hb dX4_waitingHours_36 ?_
    refine z_max hx hb (by rw [hml]; exact hl.1.symm) hown (hts _ (by decide +kernel)) (hts _ (by decide +kernel)) (hts _ (by decide +kernel)) (hts _ (by decide +kernel)) (Nat.le_of_ble_eq_true rfl) (Nat.le_of_ble_eq_true rfl) (Nat.le_of_ble_eq_true rfl) (Nat.le_of_ble_eq_true rfl) (by omega) (by omega) dX4_waitingHours_37 ?_
    exact (ze_i (u' := (n, am, S)) (z := (max 0 (S 8 j 6 - (max (S 8 j 5) (S 8 j 1))))) hx hb hr rfl hI (by omega) ⟨by unfold yWait; repeat (first | rw [if_pos (by omega)] | rw [if_neg (by omega)]), rfl⟩ (Nat.le_of_ble_eq_true rfl) (Nat.le_of_ble_eq_true rfl) dX4_waitingHours_40 hlocks)
  · skip
    refine lv_aload_n hx hb dX4_waitingHours_21 rfl (lv_at hl 1 rfl) ?_
    refine zg_i (κ := 0) (i := 0) (k := 10) hx hb LX4 hown hK hI hW.1.1 rfl rfl (by decide) rfl f81 (fun _ h9 => h9) dX4_waitingHours_22 rfl (fun b6 => ?_)
    refine lv_goto (tgt := 32) hx hb dX4_waitingHours_25 (by decide) ?_
    refine lv_istore_n (lv' := [(3, .int (iZ (S 0 0 10))), (2, .int (iZ (max (S 8 j 5) (S 8 j 1)))), (0, .ref (am 0 0)), (1, .ref (am 8 j))]) hx hb dX4_waitingHours_32 rfl hl (by decide) rfl (fun ls hl => ?_)
    refine z_iconst hx hb dX4_waitingHours_33 ?_
    refine lv_iload_n hx hb dX4_waitingHours_34 rfl (lv_at hl 0 rfl) ?_
    refine lv_iload_n hx hb dX4_waitingHours_35 rfl (lv_at hl 1 rfl) ?_
    refine z_isub hx hb dX4_waitingHours_36 ?_
    refine z_max hx hb (by rw [hml]; exact hl.1.symm) hown (hts _ (by decide +kernel)) (hts _ (by decide +kernel)) (hts _ (by decide +kernel)) (hts _ (by decide +kernel)) (Nat.le_of_ble_eq_true rfl) (Nat.le_of_ble_eq_true rfl) (Nat.le_of_ble_eq_true rfl) (Nat.le_of_ble_eq_true rfl) (by omega) (by omega) dX4_waitingHours_37 ?_
    exact (ze_i (u' := (n, am, S)) (z := (max 0 (S 0 0 10 - (max (S 8 j 5) (S 8 j 1))))) hx hb hr rfl hI (by omega) ⟨by unfold yWait; repeat (first | rw [if_pos (by omega)] | rw [if_neg (by omega)]), rfl⟩ (Nat.le_of_ble_eq_true rfl) (Nat.le_of_ble_eq_true rfl) dX4_waitingHours_40 hlocks)
set_option maxHeartbeats 4000000 in
set_option maxRecDepth 100000 in
theorem c_X4_chargeInSteps (l : Launch) (D : va_G) (cA : Nat → ClassId) (n : Nat → Nat) (am : ts_Am) (S : ts_St) (sz : Nat) (j : Nat) (hW : cW n S) (hj : j < n 8) (hcr : cR n S) : Met l yX4_chargeInSteps wsX4_chargeInSteps ({ frames := 2, cells := 0, slots := 0, locals := 63 } : Room) (va_Pc [.ref (am 0 0), .ref (am 8 j)] (zP TX D cA (n, am, S) sz)) (zQi TX D cA (n, am, S) sz (fun z u => z = yCharge S j ∧ u = (n, am, S))) 0 0 (ts_A (n, am, S) sz) := by
  refine zM_of (by decide) rfl (Nat.le_of_ble_eq_true rfl) ?_
  intro p e s m below meth c hx hb hr hts hown hlocks hml hname hK hsz H locs hI ls hl
  subst hsz
  have hown : s.vm.findClass RX4 = some m.cls := hown
  have hl : lv_has ls 4 [(0, .ref (am 0 0)), (1, .ref (am 8 j))] := hl
  have f32 := hts (.fieldLink RX4 32 "DockyardSlots" "freeHours" "I") (by decide +kernel)
  have f35 := hts (.fieldLink RX4 35 "DockyardSlots" "firstRate" "I") (by decide +kernel)
  have f38 := hts (.fieldLink RX4 38 "DockyardSlots" "firstHours" "I") (by decide +kernel)
  have f41 := hts (.fieldLink RX4 41 "DockyardSlots" "secondRate" "I") (by decide +kernel)
  have LX4 : ∀ w ∈ wsX40, w.before [.ref (am 0 0), .ref (am 8 j)].toArray s = true := fun w h => hts w (List.mem_cons_of_mem _ (List.mem_append_left _ (List.mem_append_right _ h)))
  have hcn := hW.cn
  have hlim := hW.lim
  have hcr1 := hcr.1
  have hwt := yWait_R hcr hj
  have hpu := yPunc_R S j
  refine lv_aload_n hx hb dX4_chargeInSteps_0 rfl (lv_at hl 0 rfl) ?_
  refine lv_aload_n hx hb dX4_chargeInSteps_1 rfl (lv_at hl 1 rfl) ?_
  refine zc_i (zrV (As := [.ref (am 8 j)]) (rest := []) (κ := 0) (i := 0) ⟨hx, hb, hml, hown, hts⟩ (c_X4_punctualityOf l D cA n am S H.size j hW hj) (cwV 1 hts gX4_chargeInSteps_X4_punctualityOf rfl rfl rfl (by decide +kernel) ⟨Nat.le_of_ble_eq_true rfl, Nat.le_of_ble_eq_true rfl⟩) hK hI hW.1.1 rfl rfl rfl hl.1 rfl (Nat.le_of_ble_eq_true rfl) dX4_chargeInSteps_2 ⟨Nat.le_of_ble_eq_true rfl, Nat.le_of_ble_eq_true rfl⟩) hI (fun z1 u9 H locs hz2 hp3 hI hfr => ?_)
  clear hfr
  obtain ⟨rfl, rfl⟩ := hp3
  refine z_bipush hx hb dX4_chargeInSteps_5 (by decide) ?_
  refine z_icmp_ne (tgt := 12) hx hb dX4_chargeInSteps_7 (by decide) (by omega) (by omega) (fun c4 => ?_) (fun c4 => ?_)
  · skip
    refine z_iconst hx hb dX4_chargeInSteps_12 ?_
    refine lv_aload_n hx hb dX4_chargeInSteps_13 rfl (lv_at hl 0 rfl) ?_
    refine lv_aload_n hx hb dX4_chargeInSteps_14 rfl (lv_at hl 1 rfl) ?_
    refine zc_i (zrV (As := [.ref (am 8 j)]) (rest := [.int (iZ 0)]) (κ := 0) (i := 0) ⟨hx, hb, hml, hown, hts⟩ (c_X4_waitingHours l D cA n am S H.size j hW hj) (cwV 1 hts gX4_chargeInSteps_X4_waitingHours rfl rfl rfl (by decide +kernel) ⟨Nat.le_of_ble_eq_true rfl, Nat.le_of_ble_eq_true rfl⟩) hK hI hW.1.1 rfl rfl rfl hl.1 rfl (Nat.le_of_ble_eq_true rfl) dX4_chargeInSteps_15 ⟨Nat.le_of_ble_eq_true rfl, Nat.le_of_ble_eq_true rfl⟩) hI (fun z5 u9 H locs hz6 hp7 hI hfr => ?_)
    clear hfr
    obtain ⟨rfl, rfl⟩ := hp7
    refine lv_aload_n hx hb dX4_chargeInSteps_18 rfl (lv_at hl 0 rfl) ?_
    refine zg_i (κ := 0) (i := 0) (k := 6) hx hb LX4 hown hK hI hW.1.1 rfl rfl (by decide) rfl f32 (fun _ h9 => h9) dX4_chargeInSteps_19 rfl (fun b8 => ?_)
    refine z_isub hx hb dX4_chargeInSteps_22 ?_
    refine z_max hx hb (by rw [hml]; exact hl.1.symm) hown (hts _ (by decide +kernel)) (hts _ (by decide +kernel)) (hts _ (by decide +kernel)) (hts _ (by decide +kernel)) (Nat.le_of_ble_eq_true rfl) (Nat.le_of_ble_eq_true rfl) (Nat.le_of_ble_eq_true rfl) (Nat.le_of_ble_eq_true rfl) (by omega) (by omega) dX4_chargeInSteps_23 ?_
    refine lv_istore_n (lv' := [(2, .int (iZ (max 0 (yWait S j - S 0 0 6)))), (0, .ref (am 0 0)), (1, .ref (am 8 j))]) hx hb dX4_chargeInSteps_26 rfl hl (by decide) rfl (fun ls hl => ?_)
    refine lv_iload_n hx hb dX4_chargeInSteps_27 rfl (lv_at hl 0 rfl) ?_
    refine lv_aload_n hx hb dX4_chargeInSteps_28 rfl (lv_at hl 1 rfl) ?_
    refine zg_i (κ := 0) (i := 0) (k := 8) hx hb LX4 hown hK hI hW.1.1 rfl rfl (by decide) rfl f38 (fun _ h9 => h9) dX4_chargeInSteps_29 rfl (fun b9 => ?_)
    refine z_min hx hb (by rw [hml]; exact hl.1.symm) hown (hts _ (by decide +kernel)) (hts _ (by decide +kernel)) (hts _ (by decide +kernel)) (hts _ (by decide +kernel)) (Nat.le_of_ble_eq_true rfl) (Nat.le_of_ble_eq_true rfl) (Nat.le_of_ble_eq_true rfl) (Nat.le_of_ble_eq_true rfl) (by omega) (by omega) dX4_chargeInSteps_32 ?_
    refine lv_istore_n (lv' := [(3, .int (iZ (min (max 0 (yWait S j - S 0 0 6)) (S 0 0 8)))), (2, .int (iZ (max 0 (yWait S j - S 0 0 6)))), (0, .ref (am 0 0)), (1, .ref (am 8 j))]) hx hb dX4_chargeInSteps_35 rfl hl (by decide) rfl (fun ls hl => ?_)
    refine lv_iload_n hx hb dX4_chargeInSteps_36 rfl (lv_at hl 0 rfl) ?_
    refine lv_aload_n hx hb dX4_chargeInSteps_37 rfl (lv_at hl 2 rfl) ?_
    refine zg_i (κ := 0) (i := 0) (k := 7) hx hb LX4 hown hK hI hW.1.1 rfl rfl (by decide) rfl f35 (fun _ h9 => h9) dX4_chargeInSteps_38 rfl (fun b10 => ?_)
    refine z_imul hx hb dX4_chargeInSteps_41 ?_
    refine lv_iload_n hx hb dX4_chargeInSteps_42 rfl (lv_at hl 1 rfl) ?_
    refine lv_iload_n hx hb dX4_chargeInSteps_43 rfl (lv_at hl 0 rfl) ?_
    refine z_isub hx hb dX4_chargeInSteps_44 ?_
    refine lv_aload_n hx hb dX4_chargeInSteps_45 rfl (lv_at hl 2 rfl) ?_
    refine zg_i (κ := 0) (i := 0) (k := 9) hx hb LX4 hown hK hI hW.1.1 rfl rfl (by decide) rfl f41 (fun _ h9 => h9) dX4_chargeInSteps_46 rfl (fun b11 => ?_)
    refine z_imul hx hb dX4_chargeInSteps_49 ?_
    refine z_iadd hx hb dX4_chargeInSteps_50 ?_
    exact (ze_i (u' := (n, am, S)) (z := (((min (max 0 (yWait S j - S 0 0 6)) (S 0 0 8)) * S 0 0 7) + (((max 0 (yWait S j - S 0 0 6)) - (min (max 0 (yWait S j - S 0 0 6)) (S 0 0 8))) * S 0 0 9))) hx hb hr rfl hI (by have := yChg_R hcr hj; unfold yPaid at this; constructor <;> omega) ⟨(if_neg (by omega)).symm, rfl⟩ (Nat.le_of_ble_eq_true rfl) (Nat.le_of_ble_eq_true rfl) dX4_chargeInSteps_51 hlocks)
  · skip
    refine z_iconst hx hb dX4_chargeInSteps_10 ?_
    exact (ze_i (u' := (n, am, S)) (z := 0) hx hb hr rfl hI (by omega) ⟨(if_pos (by omega)).symm, rfl⟩ (Nat.le_of_ble_eq_true rfl) (Nat.le_of_ble_eq_true rfl) dX4_chargeInSteps_11 hlocks)
set_option maxHeartbeats 4000000 in
set_option maxRecDepth 100000 in
theorem c_X4_rateOfHour (l : Launch) (D : va_G) (cA : Nat → ClassId) (n : Nat → Nat) (am : ts_Am) (S : ts_St) (sz : Nat) (x : Int) (hW : cW n S) (hx0 : iR x) : Met l yX4_rateOfHour wsX4_rateOfHour ({ frames := 0, cells := 0, slots := 0, locals := 0 } : Room) (va_Pc [.ref (am 0 0), .int (iZ x)] (zP TX D cA (n, am, S) sz)) (zQi TX D cA (n, am, S) sz (fun z u => z = yRate S x ∧ u = (n, am, S))) 0 0 (ts_A (n, am, S) sz) := by
  refine zM_of (by decide) rfl (Nat.le_of_ble_eq_true rfl) ?_
  intro p e s m below meth c hx hb hr hts hown hlocks hml hname hK hsz H locs hI ls hl
  subst hsz
  have hown : s.vm.findClass RX4 = some m.cls := hown
  have hl : lv_has ls 2 [(0, .ref (am 0 0)), (1, .int (iZ x))] := hl
  have f32 := hts (.fieldLink RX4 32 "DockyardSlots" "freeHours" "I") (by decide +kernel)
  have f35 := hts (.fieldLink RX4 35 "DockyardSlots" "firstRate" "I") (by decide +kernel)
  have f38 := hts (.fieldLink RX4 38 "DockyardSlots" "firstHours" "I") (by decide +kernel)
  have f41 := hts (.fieldLink RX4 41 "DockyardSlots" "secondRate" "I") (by decide +kernel)
  have LX4 : ∀ w ∈ wsX40, w.before [.ref (am 0 0), .int (iZ x)].toArray s = true := fun w h => hts w (List.mem_cons_of_mem _ (List.mem_append_right _ h))
  have hcn := hW.cn
  have hlim := hW.lim
  refine lv_iload_n hx hb dX4_rateOfHour_0 rfl (lv_at hl 1 rfl) ?_
  refine lv_aload_n hx hb dX4_rateOfHour_1 rfl (lv_at hl 0 rfl) ?_
  refine zg_i (κ := 0) (i := 0) (k := 6) hx hb LX4 hown hK hI hW.1.1 rfl rfl (by decide) rfl f32 (fun _ h9 => h9) dX4_rateOfHour_2 rfl (fun b1 => ?_)
  refine z_icmp_ge (tgt := 10) hx hb dX4_rateOfHour_5 (by decide) (by omega) (by omega) (fun c2 => ?_) (fun c2 => ?_)
  · skip
    refine lv_iload_n hx hb dX4_rateOfHour_10 rfl (lv_at hl 1 rfl) ?_
    refine lv_aload_n hx hb dX4_rateOfHour_11 rfl (lv_at hl 0 rfl) ?_
    refine zg_i (κ := 0) (i := 0) (k := 6) hx hb LX4 hown hK hI hW.1.1 rfl rfl (by decide) rfl f32 (fun _ h9 => h9) dX4_rateOfHour_12 rfl (fun b3 => ?_)
    refine lv_aload_n hx hb dX4_rateOfHour_15 rfl (lv_at hl 0 rfl) ?_
    refine zg_i (κ := 0) (i := 0) (k := 8) hx hb LX4 hown hK hI hW.1.1 rfl rfl (by decide) rfl f38 (fun _ h9 => h9) dX4_rateOfHour_16 rfl (fun b4 => ?_)
    refine z_iadd hx hb dX4_rateOfHour_19 ?_
    refine z_icmp_ge (tgt := 30) hx hb dX4_rateOfHour_20 (by decide) (by omega) (by omega) (fun c5 => ?_) (fun c5 => ?_)
    · skip
      refine lv_aload_n hx hb dX4_rateOfHour_30 rfl (lv_at hl 0 rfl) ?_
      refine zg_i (κ := 0) (i := 0) (k := 9) hx hb LX4 hown hK hI hW.1.1 rfl rfl (by decide) rfl f41 (fun _ h9 => h9) dX4_rateOfHour_31 rfl (fun b6 => ?_)
      exact (ze_i (u' := (n, am, S)) (z := S 0 0 9) hx hb hr rfl hI (by omega) ⟨by unfold yRate; repeat (first | rw [if_pos (by omega)] | rw [if_neg (by omega)]), rfl⟩ (Nat.le_of_ble_eq_true rfl) (Nat.le_of_ble_eq_true rfl) dX4_rateOfHour_34 hlocks)
    · skip
      refine lv_aload_n hx hb dX4_rateOfHour_23 rfl (lv_at hl 0 rfl) ?_
      refine zg_i (κ := 0) (i := 0) (k := 7) hx hb LX4 hown hK hI hW.1.1 rfl rfl (by decide) rfl f35 (fun _ h9 => h9) dX4_rateOfHour_24 rfl (fun b7 => ?_)
      refine lv_goto (tgt := 34) hx hb dX4_rateOfHour_27 (by decide) ?_
      exact (ze_i (u' := (n, am, S)) (z := S 0 0 7) hx hb hr rfl hI (by omega) ⟨by unfold yRate; repeat (first | rw [if_pos (by omega)] | rw [if_neg (by omega)]), rfl⟩ (Nat.le_of_ble_eq_true rfl) (Nat.le_of_ble_eq_true rfl) dX4_rateOfHour_34 hlocks)
  · skip
    refine z_iconst hx hb dX4_rateOfHour_8 ?_
    exact (ze_i (u' := (n, am, S)) (z := 0) hx hb hr rfl hI (by omega) ⟨by unfold yRate; repeat (first | rw [if_pos (by omega)] | rw [if_neg (by omega)]), rfl⟩ (Nat.le_of_ble_eq_true rfl) (Nat.le_of_ble_eq_true rfl) dX4_rateOfHour_9 hlocks)
