/-! The model's passing of hours. -/
def pSt (S : ts_St) (T : Int) (k : Nat) : Int := if S 12 0 k = 98 ∧ 24 < T - S 9 0 k then 110 else S 12 0 k
def pN (S : ts_St) (T : Int) : Nat → Int
  | 0 => 0
  | k + 1 => pN S T k + (if S 12 0 k = 98 ∧ 24 < T - S 9 0 k then 1 else 0)
theorem pN_s {S : ts_St} {T y : Int} (h : 0 ≤ y) : pN S T (y + 1).toNat = pN S T y.toNat + (if S 12 0 y.toNat = 98 ∧ 24 < T - S 9 0 y.toNat then 1 else 0) := by
  obtain ⟨k, rfl⟩ := Int.eq_ofNat_of_zero_le h
  rfl
theorem pN_R (S : ts_St) (T : Int) (k : Nat) : 0 ≤ pN S T k ∧ pN S T k ≤ (k : Int) := by
  induction k with
  | zero => exact ⟨Int.le_refl _, Int.le_refl _⟩
  | succ k ih =>
    show 0 ≤ pN S T k + (if S 12 0 k = 98 ∧ 24 < T - S 9 0 k then 1 else 0) ∧ pN S T k + (if S 12 0 k = 98 ∧ 24 < T - S 9 0 k then 1 else 0) ≤ ((k + 1 : Nat) : Int)
    split <;> omega
/-- at the hour T the first w appointments are looked at, the others stand as at the hour before -/
def gP (S : ts_St) (T : Int) (w : Nat) : ts_St := fun a b c => if a = 0 ∧ b = 0 ∧ c = 21 then T else if a = 12 ∧ b = 0 ∧ (c : Int) < S 0 0 8 then (if c < w then pSt S T c else pSt S (T - 1) c) else S a b c
theorem gP_time {S : ts_St} {T : Int} : up3 (gP S T (S 0 0 8).toNat) 0 0 21 (T + 1) = gP S (T + 1) 0 := by
  funext a b c
  unfold up3 gP
  by_cases h : a = 0 ∧ b = 0 ∧ c = 21
  · rw [if_pos h, if_pos h]
  · rw [if_neg h, if_neg h, if_neg h]
    by_cases h2 : a = 12 ∧ b = 0 ∧ (c : Int) < S 0 0 8
    · rw [if_pos h2, if_pos h2, if_pos (by omega), if_neg (by omega)]
      congr 1
      omega
    · rw [if_neg h2, if_neg h2]
theorem gP_same {S : ts_St} {T : Int} {w : Nat} (h : pSt S T w = pSt S (T - 1) w) : gP S T w = gP S T (w + 1) := by
  funext a b c
  unfold gP
  split
  · rfl
  · split
    · by_cases hc : c = w
      · subst hc
        rw [if_neg (by omega), if_pos (by omega), h]
      · by_cases hc2 : c < w
        · rw [if_pos hc2, if_pos (by omega)]
        · rw [if_neg hc2, if_neg (by omega)]
    · rfl
theorem gP_set {S : ts_St} {T : Int} {w : Nat} (hw : (w : Int) < S 0 0 8) (h : pSt S T w = 110) : up3 (gP S T w) 12 0 w 110 = gP S T (w + 1) := by
  funext a b c
  unfold up3 gP
  by_cases h1 : a = 12 ∧ b = 0 ∧ c = w
  · obtain ⟨rfl, rfl, rfl⟩ := h1
    rw [if_pos ⟨rfl, rfl, rfl⟩, if_neg (by omega), if_pos ⟨rfl, rfl, hw⟩, if_pos (by omega), h]
  · rw [if_neg h1]
    split
    · rfl
    · split
      · rename_i h3
        have : c ≠ w := fun q => h1 ⟨h3.1, h3.2.1, q⟩
        by_cases hc2 : c < w
        · rw [if_pos hc2, if_pos (by omega)]
        · rw [if_neg hc2, if_neg (by omega)]
      · rfl
theorem gP_0 {S : ts_St} (h : ∀ k : Nat, (k : Int) < S 0 0 8 → S 12 0 k = 98 → S 0 0 21 - S 9 0 k ≤ 24) : S = gP S (S 0 0 21) (S 0 0 8).toNat := by
  funext a b c
  unfold gP
  split
  · rename_i h1
    obtain ⟨rfl, rfl, rfl⟩ := h1
    rfl
  · split
    · rename_i h2
      obtain ⟨rfl, rfl, h3⟩ := h2
      rw [if_pos (by omega)]
      unfold pSt
      rw [if_neg]
      rintro ⟨q1, q2⟩
      have := h c h3 q1
      omega
    · rfl
theorem gP_8 (S : ts_St) (T : Int) (w : Nat) : gP S T w 0 0 8 = S 0 0 8 := by
  unfold gP
  rw [if_neg (by omega), if_neg (by omega)]
theorem gP_21 (S : ts_St) (T : Int) (w : Nat) : gP S T w 0 0 21 = T := by
  unfold gP
  rw [if_pos ⟨rfl, rfl, rfl⟩]
theorem gP_9 (S : ts_St) (T : Int) (w k : Nat) : gP S T w 9 0 k = S 9 0 k := by
  unfold gP
  rw [if_neg (by omega), if_neg (by omega)]
theorem gP_12 {S : ts_St} {T : Int} {w : Nat} (hw : (w : Int) < S 0 0 8) : gP S T w 12 0 w = pSt S (T - 1) w := by
  unfold gP
  rw [if_neg (by omega), if_pos ⟨rfl, rfl, hw⟩, if_neg (by omega)]
theorem pN_0 {S : ts_St} {T : Int} (k : Nat) (h : ∀ j : Nat, j < k → S 12 0 j = 98 → T - S 9 0 j ≤ 24) : pN S T k = 0 := by
  induction k with
  | zero => rfl
  | succ k ih =>
    show pN S T k + (if S 12 0 k = 98 ∧ 24 < T - S 9 0 k then 1 else 0) = 0
    rw [ih (fun j hj => h j (by omega)), if_neg]
    · rfl
    · rintro ⟨q1, q2⟩
      have := h k (by omega) q1
      omega
def kPass (h : Int) : Int := if 1 ≤ h ∧ h ≤ 99 then 0 else 1

set_option maxHeartbeats 4000000 in
set_option maxRecDepth 100000 in
theorem c_X5_pass (l : Launch) (D : va_G) (cA : Nat → ClassId) (n : Nat → Nat) (am : ts_Am) (S : ts_St) (sz : Nat) (a : Int) (hW : mW n S) (ha0 : iR a) (hR : mR S) (hns : ∀ k : Nat, (k : Int) < S 0 0 8 → S 12 0 k = 98 → S 0 0 21 - S 9 0 k ≤ 24) (htm : S 0 0 21 + 100 ≤ 100000) : Met l yX5_pass wsX5_pass ({ frames := 1, cells := 0, slots := 0, locals := 22 } : Room) (va_Pc [.ref (am 0 0), .int (iZ a)] (zP TM D cA (n, am, S) sz)) (zQi TM D cA (n, am, S) sz (fun z u => (¬ kPass a = 0 ∧ u = (n, am, up3 S 0 0 24 (kPass a))) ∨ (kPass a = 0 ∧ z = pN (m0 S 0) (S 0 0 21 + a) (S 0 0 8).toNat ∧ u = (n, am, gP (m0 S 0) (S 0 0 21 + a) (S 0 0 8).toNat)))) 0 0 (ts_A (n, am, S) sz) := by
  refine zM_of (by decide) rfl (Nat.le_of_ble_eq_true rfl) ?_
  intro p e s m below meth c hx hb hr hts hown hlocks hml hname hK hsz H locs hI ls hl
  subst hsz
  have hown : s.vm.findClass RX5 = some m.cls := hown
  have hl : lv_has ls 5 [(0, .ref (am 0 0)), (1, .int (iZ a))] := hl
  have f30 := hts (.fieldLink RX5 30 "DockyardSlotsModel" "hours" "[I") (by decide +kernel)
  have f39 := hts (.fieldLink RX5 39 "DockyardSlotsModel" "states" "[C") (by decide +kernel)
  have f77 := hts (.fieldLink RX5 77 "DockyardSlotsModel" "booked" "I") (by decide +kernel)
  have f87 := hts (.fieldLink RX5 87 "DockyardSlotsModel" "time" "I") (by decide +kernel)
  have LX5 : ∀ w ∈ wsX50, w.before [.ref (am 0 0), .int (iZ a)].toArray s = true := fun w h => hts w (List.mem_cons_of_mem _ (List.mem_append_left _ (List.mem_append_right _ h)))
  have hR1 := hR.1
  refine lv_aload_n hx hb dX5_pass_0 rfl (lv_at hl 0 rfl) ?_
  refine lv_iload_n hx hb dX5_pass_1 rfl (lv_at hl 1 rfl) ?_
  refine z_iconst hx hb dX5_pass_2 ?_
  refine z_bipush hx hb dX5_pass_3 (by decide) ?_
  refine zc_i (zrS (As := [.int (iZ a), .int (iZ 1), .int (iZ 99)]) (rest := [.ref (am 0 0)]) ⟨hx, hb, hml, hown, hts⟩ (c_X5_in l D cA n am S H.size a 1 99 (by omega) (by omega) (by omega)) (va_cwS 3 hts gX5_pass_X5_in rfl rfl rfl (by decide +kernel) ⟨Nat.le_of_ble_eq_true rfl, Nat.le_of_ble_eq_true rfl⟩) hK hI rfl hl.1 rfl (Nat.le_of_ble_eq_true rfl) dX5_pass_5 ⟨Nat.le_of_ble_eq_true rfl, Nat.le_of_ble_eq_true rfl⟩) hI (fun z1 u9 H locs hz2 hp3 hI hfr => ?_)
  clear hfr
  obtain ⟨rfl, rfl⟩ := hp3
  refine z_if_eq (tgt := 15) hx hb dX5_pass_8 (by decide) (by omega) (fun c4 => ?_) (fun c4 => ?_)
  · skip
    have c4 := zB_0 c4
    refine z_iconst hx hb dX5_pass_15 ?_
    refine zc_i (zrV (As := [.int (iZ 1)]) (rest := []) (κ := 0) (i := 0) ⟨hx, hb, hml, hown, hts⟩ (c_X5_fails l D cA n am S H.size 1 hW (by omega)) (cwV 1 hts gX5_pass_X5_fails rfl rfl rfl (by decide +kernel) ⟨Nat.le_of_ble_eq_true rfl, Nat.le_of_ble_eq_true rfl⟩) hK hI (hW.1 0 (by decide)) rfl rfl rfl hl.1 rfl (Nat.le_of_ble_eq_true rfl) dX5_pass_16 ⟨Nat.le_of_ble_eq_true rfl, Nat.le_of_ble_eq_true rfl⟩) hI (fun z5 u9 H locs hz6 hp7 hI hfr => ?_)
    clear hfr
    obtain ⟨rfl, rfl⟩ := hp7
    obtain ⟨S8, eS8⟩ : ∃ z, z = up3 S 0 0 24 1 := ⟨_, rfl⟩
    rw [← eS8] at hI
    have hW : mW n S8 := by rw [eS8]; exact hW.put rfl
    refine z_if_eq (tgt := 24) hx hb dX5_pass_19 (by decide) (by omega) (fun c9 => ?_) (fun c9 => ?_)
    · skip
      have c9 := zB_0 c9
      omega
    · skip
      have c9 := zB_1 c9
      refine z_iconst hx hb dX5_pass_22 ?_
      exact (ze_i (u' := (n, am, S8)) (z := 0) hx hb hr rfl hI (by omega) (Or.inl ⟨by rw [show kPass a = 1 from if_neg (by omega)]; decide, by rw [show kPass a = 1 from if_neg (by omega), eS8]⟩) (Nat.le_of_ble_eq_true rfl) (Nat.le_of_ble_eq_true rfl) dX5_pass_23 hlocks)
  · skip
    have c4 := zB_1 c4
    refine z_iconst hx hb dX5_pass_11 ?_
    refine lv_goto (tgt := 16) hx hb dX5_pass_12 (by decide) ?_
    refine zc_i (zrV (As := [.int (iZ 0)]) (rest := []) (κ := 0) (i := 0) ⟨hx, hb, hml, hown, hts⟩ (c_X5_fails l D cA n am S H.size 0 hW (by omega)) (cwV 1 hts gX5_pass_X5_fails rfl rfl rfl (by decide +kernel) ⟨Nat.le_of_ble_eq_true rfl, Nat.le_of_ble_eq_true rfl⟩) hK hI (hW.1 0 (by decide)) rfl rfl rfl hl.1 rfl (Nat.le_of_ble_eq_true rfl) dX5_pass_16 ⟨Nat.le_of_ble_eq_true rfl, Nat.le_of_ble_eq_true rfl⟩) hI (fun z10 u9 H locs hz11 hp12 hI hfr => ?_)
    clear hfr
    obtain ⟨rfl, rfl⟩ := hp12
    obtain ⟨S13, eS13⟩ : ∃ z, z = up3 S 0 0 24 0 := ⟨_, rfl⟩
    rw [← eS13] at hI
    have hW : mW n S13 := by rw [eS13]; exact hW.put rfl
    refine z_if_eq (tgt := 24) hx hb dX5_pass_19 (by decide) (by omega) (fun c14 => ?_) (fun c14 => ?_)
    · skip
      have c14 := zB_0 c14
      have h8 : S13 0 0 8 = S 0 0 8 := by rw [eS13, up3_n (by omega)]
      have h21 : S13 0 0 21 = S 0 0 21 := by rw [eS13, up3_n (by omega)]
      have hns8 : ∀ k : Nat, (k : Int) < S13 0 0 8 → S13 12 0 k = 98 → S13 0 0 21 - S13 9 0 k ≤ 24 := by intro k q1 q2; rw [h8] at q1; rw [eS13, up3_n (by omega)] at q2; have := hns k q1 q2; rw [h21, eS13, up3_n (by omega)]; exact this
      have h9 : ∀ k : Nat, S13 9 0 k = S 9 0 k := by intro k; rw [eS13, up3_n (by omega)]
      refine z_iconst hx hb dX5_pass_24 ?_
      refine lv_istore_n (lv' := [(2, .int (iZ 0)), (0, .ref (am 0 0)), (1, .int (iZ a))]) hx hb dX5_pass_25 rfl hl (by decide) rfl (fun ls hl => ?_)
      refine z_iconst hx hb dX5_pass_26 ?_
      refine lv_istore_n (lv' := [(3, .int (iZ 0)), (2, .int (iZ 0)), (0, .ref (am 0 0)), (1, .int (iZ a))]) hx hb dX5_pass_27 rfl hl (by decide) rfl (fun ls hl => ?_)
      obtain ⟨x, e_x⟩ : ∃ z : Int, z = 0 := ⟨_, rfl⟩
      obtain ⟨y, e_y⟩ : ∃ z : Int, z = 0 := ⟨_, rfl⟩
      replace hl : lv_has ls 5 [(3, .int (iZ y)), (2, .int (iZ x)), (0, .ref (am 0 0)), (1, .int (iZ a))] := by rw [e_x, e_y]; exact hl
      obtain ⟨S1, e_S1⟩ : ∃ z, z = S13 := ⟨_, rfl⟩
      rw [← e_S1] at hI
      replace hW : mW n S1 := by rw [e_S1]; exact hW
      have h1 : 0 ≤ y ∧ y ≤ a := by omega
      have h2 : S1 = gP S13 (S 0 0 21 + y) (S 0 0 8).toNat := by rw [e_S1, e_y, Int.add_zero, ← h21, ← h8]; exact gP_0 hns8
      have h3 : x = pN S13 (S 0 0 21 + y) (S 0 0 8).toNat := by rw [e_x, pN_0]; intro j q1 q2; have := hns8 j (by omega) q2; rw [h21] at this; omega
      obtain ⟨k28, hk28⟩ : ∃ k : Nat, a - y < (k : Int) := ⟨(a - y).toNat + 1, by omega⟩
      clear e_x e_y e_S1
      induction k28 generalizing x y S1 H locs ls with
      | zero => omega
      | succ k28 ih28 =>
        have g21 : S1 0 0 21 = S 0 0 21 + y := by rw [h2]; exact gP_21 _ _ _
        refine lv_iload_n hx hb dX5_pass_28 rfl (lv_at hl 0 rfl) ?_
        refine lv_iload_n hx hb dX5_pass_29 rfl (lv_at hl 3 rfl) ?_
        refine z_icmp_ge (tgt := 111) hx hb dX5_pass_30 (by decide) (by omega) (by omega) (fun c15 => ?_) (fun c15 => ?_)
        · skip
          have hpn := pN_R S13 (S 0 0 21 + y) (S 0 0 8).toNat
          refine lv_iload_n hx hb dX5_pass_111 rfl (lv_at hl 1 rfl) ?_
          exact (ze_i (u' := (n, am, S1)) (z := x) hx hb hr rfl hI (by omega) (Or.inr ⟨if_pos (by omega), by rw [h3, show y = a by omega, eS13], by rw [h2, show y = a by omega, eS13]⟩) (Nat.le_of_ble_eq_true rfl) (Nat.le_of_ble_eq_true rfl) dX5_pass_112 hlocks)
        · skip
          refine lv_aload_n hx hb dX5_pass_33 rfl (lv_at hl 2 rfl) ?_
          refine lv_dup hx hb dX5_pass_34 rfl ?_
          refine zg_i (κ := 0) (i := 0) (k := 21) hx hb LX5 hown hK hI (hW.1 0 (by decide)) rfl rfl (by decide) rfl f87 (fun _ h9 => h9) dX5_pass_35 rfl (fun b16 => ?_)
          refine z_iconst hx hb dX5_pass_38 ?_
          refine z_iadd hx hb dX5_pass_39 ?_
          refine zp_i (κ := 0) (i := 0) (k := 21) hx hb LX5 tyX5 tyX5_ok nmX5 hown hK hI (hW.1 0 (by decide)) rfl rfl (by decide) rfl f87 (fun _ h9 => h9) rfl rfl rfl (by omega) dX5_pass_40 (fun H locs hI => ?_)
          obtain ⟨S17, eS17⟩ : ∃ z, z = up3 S1 0 0 21 (S1 0 0 21 + 1) := ⟨_, rfl⟩
          rw [← eS17] at hI
          have hW : mW n S17 := by rw [eS17]; exact hW.put rfl
          refine z_iconst hx hb dX5_pass_43 ?_
          refine lv_istore (lv' := [(4, .int (iZ 0)), (3, .int (iZ y)), (2, .int (iZ x)), (0, .ref (am 0 0)), (1, .int (iZ a))]) hx hb dX5_pass_44 hl (by decide) rfl (fun ls hl => ?_)
          obtain ⟨x2, e_x2⟩ : ∃ z : Int, z = x := ⟨_, rfl⟩
          obtain ⟨w, e_w⟩ : ∃ z : Int, z = 0 := ⟨_, rfl⟩
          replace hl : lv_has ls 5 [(4, .int (iZ w)), (3, .int (iZ y)), (2, .int (iZ x2)), (0, .ref (am 0 0)), (1, .int (iZ a))] := by rw [e_x2, e_w]; exact hl
          obtain ⟨S3, e_S3⟩ : ∃ z, z = S17 := ⟨_, rfl⟩
          rw [← e_S3] at hI
          replace hW : mW n S3 := by rw [e_S3]; exact hW
          have h4 : 0 ≤ w ∧ w ≤ S 0 0 8 := by omega
          have h5 : S3 = gP S13 (S 0 0 21 + y + 1) w.toNat := by rw [e_S3, eS17, h2, gP_21, e_w, ← h8]; exact gP_time
          have h6 : x2 = pN S13 (S 0 0 21 + y + 1) w.toNat + (pN S13 (S 0 0 21 + y) (S 0 0 8).toNat - pN S13 (S 0 0 21 + y) w.toNat) := by rw [e_x2, e_w, h3]; show _ = 0 + (_ - 0); omega
          obtain ⟨k46, hk46⟩ : ∃ k : Nat, S 0 0 8 - w < (k : Int) := ⟨(S 0 0 8 - w).toNat + 1, by omega⟩
          clear e_x2 e_w e_S3
          induction k46 generalizing x2 w S3 H locs ls with
          | zero => omega
          | succ k46 ih46 =>
            have g8 : S3 0 0 8 = S 0 0 8 := by rw [h5, gP_8, h8]
            have g21 : S3 0 0 21 = S 0 0 21 + y + 1 := by rw [h5]; exact gP_21 _ _ _
            refine lv_iload hx hb dX5_pass_46 (lv_at hl 0 rfl) ?_
            refine lv_aload_n hx hb dX5_pass_48 rfl (lv_at hl 3 rfl) ?_
            refine zg_i (κ := 0) (i := 0) (k := 8) hx hb LX5 hown hK hI (hW.1 0 (by decide)) rfl rfl (by decide) rfl f77 (fun _ h9 => h9) dX5_pass_49 rfl (fun b18 => ?_)
            refine z_icmp_ge (tgt := 105) hx hb dX5_pass_52 (by decide) (by omega) (by omega) (fun c19 => ?_) (fun c19 => ?_)
            · skip
              refine z_iinc (k := 1) (lv' := [(3, .int (iZ (y + 1))), (4, .int (iZ w)), (2, .int (iZ x2)), (0, .ref (am 0 0)), (1, .int (iZ a))]) hx hb dX5_pass_105 hl rfl (by decide) rfl (fun ls hl => ?_)
              refine lv_goto (tgt := 28) hx hb dX5_pass_108 (by decide) ?_
              exact ih28 (x := x2) (y := (y + 1)) (S1 := S3) (h1 := by omega) (h2 := by rw [h5, show S 0 0 21 + (y + 1) = S 0 0 21 + y + 1 by omega, show w.toNat = (S 0 0 8).toNat by omega]) (h3 := by rw [show S 0 0 21 + (y + 1) = S 0 0 21 + y + 1 by omega, show (S 0 0 8).toNat = w.toNat by omega]; rw [show (S 0 0 8).toNat = w.toNat by omega] at h6; omega) (hW := hW) (hk28 := by omega) (hI := hI) (hl := lv_sub hl [0, 2, 3, 4] rfl)
            · skip
              have g12 : S3 12 0 w.toNat = pSt S13 (S 0 0 21 + y) w.toNat := by rw [h5, gP_12 (by omega)]; congr 1; omega
              have g9 : S3 9 0 w.toNat = S13 9 0 w.toNat := by rw [h5, gP_9]
              have hr9 := (hR.2.2.1 w.toNat).1
              have g99 := h9 w.toNat
              have hpn := pN_R S13 (S 0 0 21 + y + 1) w.toNat
              have hpn2 := pN_R S13 (S 0 0 21 + y) w.toNat
              have hpn3 := pN_R S13 (S 0 0 21 + y) (S 0 0 8).toNat
              refine lv_aload_n hx hb dX5_pass_55 rfl (lv_at hl 3 rfl) ?_
              refine zg_r (κ := 0) (i := 0) (k := 12) (t := 12) (j := 0) hx hb LX5 hown hK hI (hW.1 0 (by decide)) rfl rfl (by decide) rfl f39 (fun _ h9 => h9) dX5_pass_56 (hW.rf 12 rfl) (fun v20 => ?_)
              refine lv_iload hx hb dX5_pass_59 (lv_at hl 0 rfl) ?_
              refine za_c (κ := 12) (i := 0) hx hb hK hI v20 rfl (by omega) (by omega) (by omega) dX5_pass_61 rfl (fun b21 => ?_)
              refine z_bipush hx hb dX5_pass_62 (by decide) ?_
              refine z_icmp_ne (tgt := 99) hx hb dX5_pass_64 (by decide) (by omega) (by omega) (fun c22 => ?_) (fun c22 => ?_)
              · skip
                refine z_iinc (k := 0) (lv' := [(4, .int (iZ (w + 1))), (3, .int (iZ y)), (2, .int (iZ x2)), (0, .ref (am 0 0)), (1, .int (iZ a))]) hx hb dX5_pass_99 hl rfl (by decide) rfl (fun ls hl => ?_)
                refine lv_goto (tgt := 46) hx hb dX5_pass_102 (by decide) ?_
                exact ih46 (x2 := x2) (w := (w + 1)) (S3 := S3) (h4 := by omega) (h5 := by rw [h5, show (w + 1).toNat = w.toNat + 1 by omega]; refine gP_same ?_; rw [show S 0 0 21 + y + 1 - 1 = S 0 0 21 + y by omega]; unfold pSt at g12 ⊢; split at g12; all_goals first | (rw [if_pos (by omega), if_pos (by omega)]) | (rw [if_neg (by omega), if_neg (by omega)])) (h6 := by rw [pN_s (by omega), pN_s (by omega)]; unfold pSt at g12; split at g12; all_goals first | (rw [if_pos (by omega), if_pos (by omega)]; omega) | (rw [if_neg (by omega), if_neg (by omega)]; omega) | (rw [if_pos (by omega), if_neg (by omega)]; omega)) (hW := hW) (hk46 := by omega) (hI := hI) (hl := lv_sub hl [0, 1, 2, 3, 4] rfl)
              · skip
                refine lv_aload_n hx hb dX5_pass_67 rfl (lv_at hl 3 rfl) ?_
                refine zg_i (κ := 0) (i := 0) (k := 21) hx hb LX5 hown hK hI (hW.1 0 (by decide)) rfl rfl (by decide) rfl f87 (fun _ h9 => h9) dX5_pass_68 rfl (fun b23 => ?_)
                refine lv_aload_n hx hb dX5_pass_71 rfl (lv_at hl 3 rfl) ?_
                refine zg_r (κ := 0) (i := 0) (k := 9) (t := 9) (j := 0) hx hb LX5 hown hK hI (hW.1 0 (by decide)) rfl rfl (by decide) rfl f30 (fun _ h9 => h9) dX5_pass_72 (hW.rf 9 rfl) (fun v24 => ?_)
                refine lv_iload hx hb dX5_pass_75 (lv_at hl 0 rfl) ?_
                refine za_i (κ := 9) (i := 0) hx hb hK hI v24 rfl (by omega) (by omega) (by omega) dX5_pass_77 rfl (fun b25 => ?_)
                refine z_isub hx hb dX5_pass_78 ?_
                refine z_bipush hx hb dX5_pass_79 (by decide) ?_
                refine z_icmp_gt (tgt := 87) hx hb dX5_pass_81 (by decide) (by omega) (by omega) (fun c26 => ?_) (fun c26 => ?_)
                · skip
                  refine lv_aload_n hx hb dX5_pass_87 rfl (lv_at hl 3 rfl) ?_
                  refine zg_r (κ := 0) (i := 0) (k := 12) (t := 12) (j := 0) hx hb LX5 hown hK hI (hW.1 0 (by decide)) rfl rfl (by decide) rfl f39 (fun _ h9 => h9) dX5_pass_88 (hW.rf 12 rfl) (fun v27 => ?_)
                  refine lv_iload hx hb dX5_pass_91 (lv_at hl 0 rfl) ?_
                  refine z_bipush hx hb dX5_pass_93 (by decide) ?_
                  refine zs_c (κ := 12) (i := 0) hx hb hK hI v27 rfl (by omega) (by omega) (by omega) (by omega) (by omega) (by omega) dX5_pass_95 (fun H locs hI => ?_)
                  obtain ⟨S28, eS28⟩ : ∃ z, z = up3 S3 12 0 w.toNat 110 := ⟨_, rfl⟩
                  rw [← eS28] at hI
                  have hW : mW n S28 := by rw [eS28]; exact hW.put rfl
                  refine z_iinc (k := 2) (lv' := [(2, .int (iZ (x2 + 1))), (4, .int (iZ w)), (3, .int (iZ y)), (0, .ref (am 0 0)), (1, .int (iZ a))]) hx hb dX5_pass_96 hl rfl (by decide) rfl (fun ls hl => ?_)
                  refine z_iinc (k := 1) (lv' := [(4, .int (iZ (w + 1))), (2, .int (iZ (x2 + 1))), (3, .int (iZ y)), (0, .ref (am 0 0)), (1, .int (iZ a))]) hx hb dX5_pass_99 hl rfl (by decide) rfl (fun ls hl => ?_)
                  refine lv_goto (tgt := 46) hx hb dX5_pass_102 (by decide) ?_
                  exact ih46 (x2 := (x2 + 1)) (w := (w + 1)) (S3 := S28) (h4 := by omega) (h5 := by rw [eS28, h5, show (w + 1).toNat = w.toNat + 1 by omega]; refine gP_set (by omega) ?_; unfold pSt at g12 ⊢; split at g12; all_goals first | omega | (rw [if_pos (by omega)])) (h6 := by rw [pN_s (by omega), pN_s (by omega)]; unfold pSt at g12; split at g12; all_goals first | (rw [if_pos (by omega), if_pos (by omega)]; omega) | (rw [if_neg (by omega), if_neg (by omega)]; omega) | (rw [if_pos (by omega), if_neg (by omega)]; omega)) (hW := hW) (hk46 := by omega) (hI := hI) (hl := lv_sub hl [0, 2, 1, 3, 4] rfl)
                · skip
                  refine lv_goto (tgt := 99) hx hb dX5_pass_84 (by decide) ?_
                  refine z_iinc (k := 0) (lv' := [(4, .int (iZ (w + 1))), (3, .int (iZ y)), (2, .int (iZ x2)), (0, .ref (am 0 0)), (1, .int (iZ a))]) hx hb dX5_pass_99 hl rfl (by decide) rfl (fun ls hl => ?_)
                  refine lv_goto (tgt := 46) hx hb dX5_pass_102 (by decide) ?_
                  exact ih46 (x2 := x2) (w := (w + 1)) (S3 := S3) (h4 := by omega) (h5 := by rw [h5, show (w + 1).toNat = w.toNat + 1 by omega]; refine gP_same ?_; rw [show S 0 0 21 + y + 1 - 1 = S 0 0 21 + y by omega]; unfold pSt at g12 ⊢; split at g12; all_goals first | (rw [if_pos (by omega), if_pos (by omega)]) | (rw [if_neg (by omega), if_neg (by omega)])) (h6 := by rw [pN_s (by omega), pN_s (by omega)]; unfold pSt at g12; split at g12; all_goals first | (rw [if_pos (by omega), if_pos (by omega)]; omega) | (rw [if_neg (by omega), if_neg (by omega)]; omega) | (rw [if_pos (by omega), if_neg (by omega)]; omega)) (hW := hW) (hk46 := by omega) (hI := hI) (hl := lv_sub hl [0, 1, 2, 3, 4] rfl)
    · skip
      have c14 := zB_1 c14
      omega
