/-! The class's leaves: what each answers, and what it writes. -/
def cSp (κ k : Nat) : Bool := (κ == 0 && (k == 0 || k == 1 || k == 3)) || (κ == 1 && k == 0) || (κ == 5 && k == 3)
/-- what never changes: the yard's parts, a lane's own array -/
def cW (n : Nat → Nat) (S : ts_St) : Prop := (0 < n 0 ∧ 0 < n 1 ∧ 0 < n 2 ∧ 0 < n 3 ∧ 0 < n 4) ∧ (S 0 0 0 = ((0 : Nat) : Int) ∧ S 0 0 1 = ((0 : Nat) : Int) ∧ S 0 0 3 = ((0 : Nat) : Int) ∧ S 1 0 0 = ((0 : Nat) : Int)) ∧ ∀ i, i < n 5 → i < n 6 ∧ S 5 i 3 = (i : Int)
theorem cW.put {n : Nat → Nat} {S : ts_St} {κ i k : Nat} {v : Int} (h : cW n S) (hk : cSp κ k = false) : cW n (up3 S κ i k v) := by
  have hne : ∀ a b c : Nat, cSp a c = true → up3 S κ i k v a b c = S a b c := fun a b c hac => up3_n (fun q => by
    obtain ⟨rfl, -, rfl⟩ := q
    rw [hk] at hac
    cases hac)
  refine ⟨h.1, ⟨?_, ?_, ?_, ?_⟩, fun j hj => ⟨(h.2.2 j hj).1, ?_⟩⟩
  · rw [hne 0 0 0 rfl]; exact h.2.1.1
  · rw [hne 0 0 1 rfl]; exact h.2.1.2.1
  · rw [hne 0 0 3 rfl]; exact h.2.1.2.2.1
  · rw [hne 1 0 0 rfl]; exact h.2.1.2.2.2
  · rw [hne 5 j 3 rfl]; exact (h.2.2 j hj).2
def yTake (S : ts_St) (i j : Nat) : Prop := S 5 i 4 < S 5 i 1 ∧ (¬ S 5 i 2 = 0 ∨ ¬ S 8 j 2 = 99)
def yServe (S : ts_St) (d j : Nat) : Prop := S 7 d 1 = 0 ∧ (S 7 d 0 = 98 ∨ S 7 d 0 = S 8 j 2)
def yCame (S : ts_St) (j : Nat) : Prop := ¬ S 8 j 4 = 98 ∧ ¬ S 8 j 4 = 110
def yBefore (S : ts_St) (i j : Nat) : Int := S 5 i 4 - 1 - S 8 j 8
def yExit (S : ts_St) (i : Nat) (x : Int) : Int := if 0 ≤ x ∧ x < S 5 i 4 ∧ S 5 i 4 ≤ 3 then S 6 i (S 5 i 4 - 1 - x).toNat else -1
theorem yExit_t {S : ts_St} {i : Nat} {x : Int} (h : 0 ≤ x ∧ x < S 5 i 4 ∧ S 5 i 4 ≤ 3) : yExit S i x = S 6 i (S 5 i 4 - 1 - x).toNat := if_pos h
theorem yExit_f {S : ts_St} {i : Nat} {x : Int} (h : ¬ (0 ≤ x ∧ x < S 5 i 4 ∧ S 5 i 4 ≤ 3)) : yExit S i x = -1 := if_neg h
def yIn (S : ts_St) (i j : Nat) : ts_St := up3 (up3 (up3 (up3 S 6 i (S 5 i 4).toNat (j : Int)) 8 j 7 (i : Int)) 8 j 8 (S 5 i 4)) 5 i 4 (S 5 i 4 + 1)
def yLane (S : ts_St) (x : Int) : Int := if 0 ≤ x ∧ x < S 1 0 1 ∧ x < 4 then S 2 0 x.toNat else -1
theorem yLane_t {S : ts_St} {x : Int} (h : 0 ≤ x ∧ x < S 1 0 1 ∧ x < 4) : yLane S x = S 2 0 x.toNat := if_pos h
theorem yLane_f {S : ts_St} {x : Int} (h : ¬ (0 ≤ x ∧ x < S 1 0 1 ∧ x < 4)) : yLane S x = -1 := if_neg h
def yOut (a b c : Int) : Prop := a < b ∨ c < a

set_option maxHeartbeats 4000000 in
set_option maxRecDepth 100000 in
theorem c_X0_hasArrived (l : Launch) (D : va_G) (cA : Nat → ClassId) (n : Nat → Nat) (am : ts_Am) (S : ts_St) (sz : Nat) (j : Nat) (hj : j < n 8) : Met l yX0_hasArrived wsX0_hasArrived ({ frames := 0, cells := 0, slots := 0, locals := 0 } : Room) (va_Pc [.ref (am 8 j)] (zP TX D cA (n, am, S) sz)) (zQi TX D cA (n, am, S) sz (fun z u => z = zB (yCame S j) ∧ u = (n, am, S))) 0 0 (ts_A (n, am, S) sz) := by
  refine zM_of (by decide) rfl (Nat.le_of_ble_eq_true rfl) ?_
  intro p e s m below meth c hx hb hr hts hown hlocks hml hname hK hsz hI ls hl
  subst hsz
  have hown : s.vm.findClass RX0 = some m.cls := hown
  have hl : lv_has ls 1 [(0, .ref (am 8 j))] := hl
  have f25 := hts (.fieldLink RX0 25 "DockyardSlots$Appointment" "state" "C") (by decide +kernel)
  have LX0 : ∀ w ∈ wsX00, w.before [.ref (am 8 j)].toArray s = true := fun w h => hts w (List.mem_cons_of_mem _ (List.mem_append_right _ h))
  refine lv_aload_n hx hb dX0_hasArrived_0 rfl (lv_at hl 0 rfl) ?_
  refine zg_i (κ := 8) (i := j) (k := 4) hx hb LX0 hown hK hI hj rfl rfl (by decide) rfl f25 (fun _ h9 => h9) dX0_hasArrived_1 rfl (fun b1 => ?_)
  refine z_bipush hx hb dX0_hasArrived_4 (by decide) ?_
  refine z_icmp_eq (tgt := 22) hx hb dX0_hasArrived_6 (by decide) (by omega) (by omega) (fun c2 => ?_) (fun c2 => ?_)
  · skip
    refine z_iconst hx hb dX0_hasArrived_22 ?_
    exact (ze_i (u' := (n, am, S)) (z := 0) hx hb hr (iZ_narz (by omega) (by omega)).1 hI (by omega) ⟨(zB_f (by unfold yCame; omega)).symm, rfl⟩ (Nat.le_of_ble_eq_true rfl) (Nat.le_of_ble_eq_true rfl) dX0_hasArrived_23 hlocks)
  · skip
    refine lv_aload_n hx hb dX0_hasArrived_9 rfl (lv_at hl 0 rfl) ?_
    refine zg_i (κ := 8) (i := j) (k := 4) hx hb LX0 hown hK hI hj rfl rfl (by decide) rfl f25 (fun _ h9 => h9) dX0_hasArrived_10 rfl (fun b3 => ?_)
    refine z_bipush hx hb dX0_hasArrived_13 (by decide) ?_
    refine z_icmp_eq (tgt := 22) hx hb dX0_hasArrived_15 (by decide) (by omega) (by omega) (fun c4 => ?_) (fun c4 => ?_)
    · skip
      refine z_iconst hx hb dX0_hasArrived_22 ?_
      exact (ze_i (u' := (n, am, S)) (z := 0) hx hb hr (iZ_narz (by omega) (by omega)).1 hI (by omega) ⟨(zB_f (by unfold yCame; omega)).symm, rfl⟩ (Nat.le_of_ble_eq_true rfl) (Nat.le_of_ble_eq_true rfl) dX0_hasArrived_23 hlocks)
    · skip
      refine z_iconst hx hb dX0_hasArrived_18 ?_
      refine lv_goto (tgt := 23) hx hb dX0_hasArrived_19 (by decide) ?_
      exact (ze_i (u' := (n, am, S)) (z := 1) hx hb hr (iZ_narz (by omega) (by omega)).1 hI (by omega) ⟨(zB_t (by unfold yCame; omega)).symm, rfl⟩ (Nat.le_of_ble_eq_true rfl) (Nat.le_of_ble_eq_true rfl) dX0_hasArrived_23 hlocks)
set_option maxHeartbeats 4000000 in
set_option maxRecDepth 100000 in
theorem c_X0_doneAt (l : Launch) (D : va_G) (cA : Nat → ClassId) (n : Nat → Nat) (am : ts_Am) (S : ts_St) (sz : Nat) (j : Nat) (hj : j < n 8) : Met l yX0_doneAt wsX0_doneAt ({ frames := 0, cells := 0, slots := 0, locals := 0 } : Room) (va_Pc [.ref (am 8 j)] (zP TX D cA (n, am, S) sz)) (zQi TX D cA (n, am, S) sz (fun z u => z = (S 8 j 6 + S 8 j 3) ∧ u = (n, am, S))) 0 0 (ts_A (n, am, S) sz) := by
  refine zM_of (by decide) rfl (Nat.le_of_ble_eq_true rfl) ?_
  intro p e s m below meth c hx hb hr hts hown hlocks hml hname hK hsz hI ls hl
  subst hsz
  have hown : s.vm.findClass RX0 = some m.cls := hown
  have hl : lv_has ls 1 [(0, .ref (am 8 j))] := hl
  have f22 := hts (.fieldLink RX0 22 "DockyardSlots$Appointment" "work" "I") (by decide +kernel)
  have f28 := hts (.fieldLink RX0 28 "DockyardSlots$Appointment" "dockedAt" "I") (by decide +kernel)
  have LX0 : ∀ w ∈ wsX00, w.before [.ref (am 8 j)].toArray s = true := fun w h => hts w (List.mem_cons_of_mem _ (List.mem_append_right _ h))
  refine lv_aload_n hx hb dX0_doneAt_0 rfl (lv_at hl 0 rfl) ?_
  refine zg_i (κ := 8) (i := j) (k := 6) hx hb LX0 hown hK hI hj rfl rfl (by decide) rfl f28 (fun _ h9 => h9) dX0_doneAt_1 rfl (fun b1 => ?_)
  refine lv_aload_n hx hb dX0_doneAt_4 rfl (lv_at hl 0 rfl) ?_
  refine zg_i (κ := 8) (i := j) (k := 3) hx hb LX0 hown hK hI hj rfl rfl (by decide) rfl f22 (fun _ h9 => h9) dX0_doneAt_5 rfl (fun b2 => ?_)
  refine z_iadd hx hb dX0_doneAt_8 ?_
  exact (ze_i (u' := (n, am, S)) (z := (S 8 j 6 + S 8 j 3)) hx hb hr rfl hI (by omega) ⟨rfl, rfl⟩ (Nat.le_of_ble_eq_true rfl) (Nat.le_of_ble_eq_true rfl) dX0_doneAt_9 hlocks)
set_option maxHeartbeats 4000000 in
set_option maxRecDepth 100000 in
theorem c_X1_canTake (l : Launch) (D : va_G) (cA : Nat → ClassId) (n : Nat → Nat) (am : ts_Am) (S : ts_St) (sz : Nat) (d j : Nat) (hd : d < n 7) (hj : j < n 8) : Met l yX1_canTake wsX1_canTake ({ frames := 0, cells := 0, slots := 0, locals := 0 } : Room) (va_Pc [.ref (am 7 d), .ref (am 8 j)] (zP TX D cA (n, am, S) sz)) (zQi TX D cA (n, am, S) sz (fun z u => z = zB (yServe S d j) ∧ u = (n, am, S))) 0 0 (ts_A (n, am, S) sz) := by
  refine zM_of (by decide) rfl (Nat.le_of_ble_eq_true rfl) ?_
  intro p e s m below meth c hx hb hr hts hown hlocks hml hname hK hsz hI ls hl
  subst hsz
  have hown : s.vm.findClass RX1 = some m.cls := hown
  have hl : lv_has ls 2 [(0, .ref (am 7 d)), (1, .ref (am 8 j))] := hl
  have f15 := hts (.fieldLink RX1 15 "DockyardSlots$Door" "isUsed" "Z") (by decide +kernel)
  have f19 := hts (.fieldLink RX1 19 "DockyardSlots$Appointment" "kind" "C") (by decide +kernel)
  have f9 := hts (.fieldLink RX1 9 "DockyardSlots$Door" "kind" "C") (by decide +kernel)
  have LX0 : ∀ w ∈ wsX00, w.before [.ref (am 7 d), .ref (am 8 j)].toArray s = true := fun w h => hts w (List.mem_cons_of_mem _ (List.mem_append_right _ h))
  have LX1 : ∀ w ∈ wsX10, w.before [.ref (am 7 d), .ref (am 8 j)].toArray s = true := fun w h => hts w (List.mem_cons_of_mem _ (List.mem_append_left _ (List.mem_append_right _ h)))
  refine lv_aload_n hx hb dX1_canTake_0 rfl (lv_at hl 0 rfl) ?_
  refine zg_i (κ := 7) (i := d) (k := 1) hx hb LX1 hown hK hI hd rfl rfl (by decide) rfl f15 (fun _ h9 => h9) dX1_canTake_1 rfl (fun b1 => ?_)
  refine z_if_ne (tgt := 31) hx hb dX1_canTake_4 (by decide) (by omega) (fun c2 => ?_) (fun c2 => ?_)
  · skip
    refine z_iconst hx hb dX1_canTake_31 ?_
    exact (ze_i (u' := (n, am, S)) (z := 0) hx hb hr (iZ_narz (by omega) (by omega)).1 hI (by omega) ⟨(zB_f (by unfold yServe; omega)).symm, rfl⟩ (Nat.le_of_ble_eq_true rfl) (Nat.le_of_ble_eq_true rfl) dX1_canTake_32 hlocks)
  · skip
    refine lv_aload_n hx hb dX1_canTake_7 rfl (lv_at hl 0 rfl) ?_
    refine zg_i (κ := 7) (i := d) (k := 0) hx hb LX1 hown hK hI hd rfl rfl (by decide) rfl f9 (fun _ h9 => h9) dX1_canTake_8 rfl (fun b3 => ?_)
    refine z_bipush hx hb dX1_canTake_11 (by decide) ?_
    refine z_icmp_eq (tgt := 27) hx hb dX1_canTake_13 (by decide) (by omega) (by omega) (fun c4 => ?_) (fun c4 => ?_)
    · skip
      refine z_iconst hx hb dX1_canTake_27 ?_
      refine lv_goto (tgt := 32) hx hb dX1_canTake_28 (by decide) ?_
      exact (ze_i (u' := (n, am, S)) (z := 1) hx hb hr (iZ_narz (by omega) (by omega)).1 hI (by omega) ⟨(zB_t (by unfold yServe; omega)).symm, rfl⟩ (Nat.le_of_ble_eq_true rfl) (Nat.le_of_ble_eq_true rfl) dX1_canTake_32 hlocks)
    · skip
      refine lv_aload_n hx hb dX1_canTake_16 rfl (lv_at hl 0 rfl) ?_
      refine zg_i (κ := 7) (i := d) (k := 0) hx hb LX1 hown hK hI hd rfl rfl (by decide) rfl f9 (fun _ h9 => h9) dX1_canTake_17 rfl (fun b5 => ?_)
      refine lv_aload_n hx hb dX1_canTake_20 rfl (lv_at hl 1 rfl) ?_
      refine zg_i (κ := 8) (i := j) (k := 2) hx hb LX0 hown hK hI hj rfl rfl (by decide) rfl f19 (fun _ h9 => h9) dX1_canTake_21 rfl (fun b6 => ?_)
      refine z_icmp_ne (tgt := 31) hx hb dX1_canTake_24 (by decide) (by omega) (by omega) (fun c7 => ?_) (fun c7 => ?_)
      · skip
        refine z_iconst hx hb dX1_canTake_31 ?_
        exact (ze_i (u' := (n, am, S)) (z := 0) hx hb hr (iZ_narz (by omega) (by omega)).1 hI (by omega) ⟨(zB_f (by unfold yServe; omega)).symm, rfl⟩ (Nat.le_of_ble_eq_true rfl) (Nat.le_of_ble_eq_true rfl) dX1_canTake_32 hlocks)
      · skip
        refine z_iconst hx hb dX1_canTake_27 ?_
        refine lv_goto (tgt := 32) hx hb dX1_canTake_28 (by decide) ?_
        exact (ze_i (u' := (n, am, S)) (z := 1) hx hb hr (iZ_narz (by omega) (by omega)).1 hI (by omega) ⟨(zB_t (by unfold yServe; omega)).symm, rfl⟩ (Nat.le_of_ble_eq_true rfl) (Nat.le_of_ble_eq_true rfl) dX1_canTake_32 hlocks)
set_option maxHeartbeats 4000000 in
set_option maxRecDepth 100000 in
theorem c_X2_canTake (l : Launch) (D : va_G) (cA : Nat → ClassId) (n : Nat → Nat) (am : ts_Am) (S : ts_St) (sz : Nat) (i j : Nat) (hi : i < n 5) (hj : j < n 8) : Met l yX2_canTake wsX2_canTake ({ frames := 0, cells := 0, slots := 0, locals := 0 } : Room) (va_Pc [.ref (am 5 i), .ref (am 8 j)] (zP TX D cA (n, am, S) sz)) (zQi TX D cA (n, am, S) sz (fun z u => z = zB (yTake S i j) ∧ u = (n, am, S))) 0 0 (ts_A (n, am, S) sz) := by
  refine zM_of (by decide) rfl (Nat.le_of_ble_eq_true rfl) ?_
  intro p e s m below meth c hx hb hr hts hown hlocks hml hname hK hsz hI ls hl
  subst hsz
  have hown : s.vm.findClass RX2 = some m.cls := hown
  have hl : lv_has ls 2 [(0, .ref (am 5 i)), (1, .ref (am 8 j))] := hl
  have f15 := hts (.fieldLink RX2 15 "DockyardSlots$Lane" "capacity" "I") (by decide +kernel)
  have f18 := hts (.fieldLink RX2 18 "DockyardSlots$Lane" "hasPower" "Z") (by decide +kernel)
  have f28 := hts (.fieldLink RX2 28 "DockyardSlots$Lane" "count" "I") (by decide +kernel)
  have f31 := hts (.fieldLink RX2 31 "DockyardSlots$Appointment" "kind" "C") (by decide +kernel)
  have LX0 : ∀ w ∈ wsX00, w.before [.ref (am 5 i), .ref (am 8 j)].toArray s = true := fun w h => hts w (List.mem_cons_of_mem _ (List.mem_append_right _ h))
  have LX2 : ∀ w ∈ wsX20, w.before [.ref (am 5 i), .ref (am 8 j)].toArray s = true := fun w h => hts w (List.mem_cons_of_mem _ (List.mem_append_left _ (List.mem_append_right _ h)))
  refine lv_aload_n hx hb dX2_canTake_0 rfl (lv_at hl 0 rfl) ?_
  refine zg_i (κ := 5) (i := i) (k := 4) hx hb LX2 hown hK hI hi rfl rfl (by decide) rfl f28 (fun _ h9 => h9) dX2_canTake_1 rfl (fun b1 => ?_)
  refine lv_aload_n hx hb dX2_canTake_4 rfl (lv_at hl 0 rfl) ?_
  refine zg_i (κ := 5) (i := i) (k := 1) hx hb LX2 hown hK hI hi rfl rfl (by decide) rfl f15 (fun _ h9 => h9) dX2_canTake_5 rfl (fun b2 => ?_)
  refine z_icmp_ge (tgt := 31) hx hb dX2_canTake_8 (by decide) (by omega) (by omega) (fun c3 => ?_) (fun c3 => ?_)
  · skip
    refine z_iconst hx hb dX2_canTake_31 ?_
    exact (ze_i (u' := (n, am, S)) (z := 0) hx hb hr (iZ_narz (by omega) (by omega)).1 hI (by omega) ⟨(zB_f (by unfold yTake; omega)).symm, rfl⟩ (Nat.le_of_ble_eq_true rfl) (Nat.le_of_ble_eq_true rfl) dX2_canTake_32 hlocks)
  · skip
    refine lv_aload_n hx hb dX2_canTake_11 rfl (lv_at hl 0 rfl) ?_
    refine zg_i (κ := 5) (i := i) (k := 2) hx hb LX2 hown hK hI hi rfl rfl (by decide) rfl f18 (fun _ h9 => h9) dX2_canTake_12 rfl (fun b4 => ?_)
    refine z_if_ne (tgt := 27) hx hb dX2_canTake_15 (by decide) (by omega) (fun c5 => ?_) (fun c5 => ?_)
    · skip
      refine z_iconst hx hb dX2_canTake_27 ?_
      refine lv_goto (tgt := 32) hx hb dX2_canTake_28 (by decide) ?_
      exact (ze_i (u' := (n, am, S)) (z := 1) hx hb hr (iZ_narz (by omega) (by omega)).1 hI (by omega) ⟨(zB_t (by unfold yTake; omega)).symm, rfl⟩ (Nat.le_of_ble_eq_true rfl) (Nat.le_of_ble_eq_true rfl) dX2_canTake_32 hlocks)
    · skip
      refine lv_aload_n hx hb dX2_canTake_18 rfl (lv_at hl 1 rfl) ?_
      refine zg_i (κ := 8) (i := j) (k := 2) hx hb LX0 hown hK hI hj rfl rfl (by decide) rfl f31 (fun _ h9 => h9) dX2_canTake_19 rfl (fun b6 => ?_)
      refine z_bipush hx hb dX2_canTake_22 (by decide) ?_
      refine z_icmp_eq (tgt := 31) hx hb dX2_canTake_24 (by decide) (by omega) (by omega) (fun c7 => ?_) (fun c7 => ?_)
      · skip
        refine z_iconst hx hb dX2_canTake_31 ?_
        exact (ze_i (u' := (n, am, S)) (z := 0) hx hb hr (iZ_narz (by omega) (by omega)).1 hI (by omega) ⟨(zB_f (by unfold yTake; omega)).symm, rfl⟩ (Nat.le_of_ble_eq_true rfl) (Nat.le_of_ble_eq_true rfl) dX2_canTake_32 hlocks)
      · skip
        refine z_iconst hx hb dX2_canTake_27 ?_
        refine lv_goto (tgt := 32) hx hb dX2_canTake_28 (by decide) ?_
        exact (ze_i (u' := (n, am, S)) (z := 1) hx hb hr (iZ_narz (by omega) (by omega)).1 hI (by omega) ⟨(zB_t (by unfold yTake; omega)).symm, rfl⟩ (Nat.le_of_ble_eq_true rfl) (Nat.le_of_ble_eq_true rfl) dX2_canTake_32 hlocks)
set_option maxHeartbeats 4000000 in
set_option maxRecDepth 100000 in
theorem c_X2_countBefore (l : Launch) (D : va_G) (cA : Nat → ClassId) (n : Nat → Nat) (am : ts_Am) (S : ts_St) (sz : Nat) (i j : Nat) (hi : i < n 5) (hj : j < n 8) : Met l yX2_countBefore wsX2_countBefore ({ frames := 0, cells := 0, slots := 0, locals := 0 } : Room) (va_Pc [.ref (am 5 i), .ref (am 8 j)] (zP TX D cA (n, am, S) sz)) (zQi TX D cA (n, am, S) sz (fun z u => z = yBefore S i j ∧ u = (n, am, S))) 0 0 (ts_A (n, am, S) sz) := by
  refine zM_of (by decide) rfl (Nat.le_of_ble_eq_true rfl) ?_
  intro p e s m below meth c hx hb hr hts hown hlocks hml hname hK hsz hI ls hl
  subst hsz
  have hown : s.vm.findClass RX2 = some m.cls := hown
  have hl : lv_has ls 2 [(0, .ref (am 5 i)), (1, .ref (am 8 j))] := hl
  have f28 := hts (.fieldLink RX2 28 "DockyardSlots$Lane" "count" "I") (by decide +kernel)
  have f39 := hts (.fieldLink RX2 39 "DockyardSlots$Appointment" "place" "I") (by decide +kernel)
  have LX0 : ∀ w ∈ wsX00, w.before [.ref (am 5 i), .ref (am 8 j)].toArray s = true := fun w h => hts w (List.mem_cons_of_mem _ (List.mem_append_right _ h))
  have LX2 : ∀ w ∈ wsX20, w.before [.ref (am 5 i), .ref (am 8 j)].toArray s = true := fun w h => hts w (List.mem_cons_of_mem _ (List.mem_append_left _ (List.mem_append_right _ h)))
  refine lv_aload_n hx hb dX2_countBefore_0 rfl (lv_at hl 0 rfl) ?_
  refine zg_i (κ := 5) (i := i) (k := 4) hx hb LX2 hown hK hI hi rfl rfl (by decide) rfl f28 (fun _ h9 => h9) dX2_countBefore_1 rfl (fun b1 => ?_)
  refine z_iconst hx hb dX2_countBefore_4 ?_
  refine z_isub hx hb dX2_countBefore_5 ?_
  refine lv_aload_n hx hb dX2_countBefore_6 rfl (lv_at hl 1 rfl) ?_
  refine zg_i (κ := 8) (i := j) (k := 8) hx hb LX0 hown hK hI hj rfl rfl (by decide) rfl f39 (fun _ h9 => h9) dX2_countBefore_7 rfl (fun b2 => ?_)
  refine z_isub hx hb dX2_countBefore_10 ?_
  exact (ze_i (u' := (n, am, S)) (z := ((S 5 i 4 - 1) - S 8 j 8)) hx hb hr rfl hI (by omega) ⟨rfl, rfl⟩ (Nat.le_of_ble_eq_true rfl) (Nat.le_of_ble_eq_true rfl) dX2_countBefore_11 hlocks)
set_option maxHeartbeats 4000000 in
set_option maxRecDepth 100000 in
theorem c_X2_fromExit (l : Launch) (D : va_G) (cA : Nat → ClassId) (n : Nat → Nat) (am : ts_Am) (S : ts_St) (sz : Nat) (i : Nat) (x : Int) (hW : cW n S) (hi : i < n 5) (hx0 : iR x) : Met l yX2_fromExit wsX2_fromExit ({ frames := 0, cells := 0, slots := 0, locals := 0 } : Room) (va_Pc [.ref (am 5 i), .int (iZ x)] (zP TX D cA (n, am, S) sz)) (zQq TX D cA (n, am, S) sz 8 (fun z u => z = yExit S i x ∧ u = (n, am, S))) 0 0 (ts_A (n, am, S) sz) := by
  refine zM_of (by decide) rfl (Nat.le_of_ble_eq_true rfl) ?_
  intro p e s m below meth c hx hb hr hts hown hlocks hml hname hK hsz hI ls hl
  subst hsz
  have hown : s.vm.findClass RX2 = some m.cls := hown
  have hl : lv_has ls 2 [(0, .ref (am 5 i)), (1, .int (iZ x))] := hl
  have f24 := hts (.fieldLink RX2 24 "DockyardSlots$Lane" "trailers" "[LDockyardSlots$Appointment;") (by decide +kernel)
  have f28 := hts (.fieldLink RX2 28 "DockyardSlots$Lane" "count" "I") (by decide +kernel)
  have LX2 : ∀ w ∈ wsX20, w.before [.ref (am 5 i), .int (iZ x)].toArray s = true := fun w h => hts w (List.mem_cons_of_mem _ (List.mem_append_right _ h))
  refine lv_iload_n hx hb dX2_fromExit_0 rfl (lv_at hl 1 rfl) ?_
  refine z_if_lt (tgt := 24) hx hb dX2_fromExit_1 (by decide) (by omega) (fun c1 => ?_) (fun c1 => ?_)
  · skip
    refine lv_null hx hb dX2_fromExit_24 ?_
    exact (ze_q (u' := (n, am, S)) (z := -1) hx hb hr (Or.inl ⟨_, rfl⟩) hI (ts_rf_n (by decide)).symm (by omega) ⟨by rw [yExit_f (by omega)], rfl⟩ (Nat.le_of_ble_eq_true rfl) (Nat.le_of_ble_eq_true rfl) dX2_fromExit_25 hlocks)
  · skip
    refine lv_iload_n hx hb dX2_fromExit_4 rfl (lv_at hl 1 rfl) ?_
    refine lv_aload_n hx hb dX2_fromExit_5 rfl (lv_at hl 0 rfl) ?_
    refine zg_i (κ := 5) (i := i) (k := 4) hx hb LX2 hown hK hI hi rfl rfl (by decide) rfl f28 (fun _ h9 => h9) dX2_fromExit_6 rfl (fun b2 => ?_)
    refine z_icmp_ge (tgt := 24) hx hb dX2_fromExit_9 (by decide) (by omega) (by omega) (fun c3 => ?_) (fun c3 => ?_)
    · skip
      refine lv_null hx hb dX2_fromExit_24 ?_
      exact (ze_q (u' := (n, am, S)) (z := -1) hx hb hr (Or.inl ⟨_, rfl⟩) hI (ts_rf_n (by decide)).symm (by omega) ⟨by rw [yExit_f (by omega)], rfl⟩ (Nat.le_of_ble_eq_true rfl) (Nat.le_of_ble_eq_true rfl) dX2_fromExit_25 hlocks)
    · skip
      refine lv_aload_n hx hb dX2_fromExit_12 rfl (lv_at hl 0 rfl) ?_
      refine zg_i (κ := 5) (i := i) (k := 4) hx hb LX2 hown hK hI hi rfl rfl (by decide) rfl f28 (fun _ h9 => h9) dX2_fromExit_13 rfl (fun b4 => ?_)
      refine lv_aload_n hx hb dX2_fromExit_16 rfl (lv_at hl 0 rfl) ?_
      refine zg_r (κ := 5) (i := i) (k := 3) (t := 6) (j := i) hx hb LX2 hown hK hI hi rfl rfl (by decide) rfl f24 (fun _ h9 => h9) dX2_fromExit_17 ((hW.2.2 _ hi).2) (fun v5 => ?_)
      refine zal hx hb hK hI v5 rfl dX2_fromExit_20 ?_
      refine z_icmp_le (tgt := 26) hx hb dX2_fromExit_21 (by decide) (by omega) (by omega) (fun c6 => ?_) (fun c6 => ?_)
      · skip
        refine lv_aload_n hx hb dX2_fromExit_26 rfl (lv_at hl 0 rfl) ?_
        refine zg_r (κ := 5) (i := i) (k := 3) (t := 6) (j := i) hx hb LX2 hown hK hI hi rfl rfl (by decide) rfl f24 (fun _ h9 => h9) dX2_fromExit_27 ((hW.2.2 _ hi).2) (fun v7 => ?_)
        refine lv_aload_n hx hb dX2_fromExit_30 rfl (lv_at hl 0 rfl) ?_
        refine zg_i (κ := 5) (i := i) (k := 4) hx hb LX2 hown hK hI hi rfl rfl (by decide) rfl f28 (fun _ h9 => h9) dX2_fromExit_31 rfl (fun b8 => ?_)
        refine z_iconst hx hb dX2_fromExit_34 ?_
        refine z_isub hx hb dX2_fromExit_35 ?_
        refine lv_iload_n hx hb dX2_fromExit_36 rfl (lv_at hl 1 rfl) ?_
        refine z_isub hx hb dX2_fromExit_37 ?_
        refine za_q (κ := 6) (i := i) hx hb hK hI v7 rfl (by omega) (by omega) (by omega) dX2_fromExit_38 (fun q9 => ?_) (fun j12 q10 v11 => ?_)
        · skip
          exact (ze_q (u' := (n, am, S)) (z := -1) hx hb hr (Or.inl ⟨_, rfl⟩) hI (ts_rf_n (by decide)).symm (by omega) ⟨by rw [yExit_t (by omega)]; exact q9.symm, rfl⟩ (Nat.le_of_ble_eq_true rfl) (Nat.le_of_ble_eq_true rfl) dX2_fromExit_39 hlocks)
        · skip
          exact (ze_q (u' := (n, am, S)) (z := (j12 : Int)) hx hb hr (Or.inl ⟨_, rfl⟩) hI (ts_V_ref _ _ _).symm (Int.ofNat_lt.mpr v11) ⟨by rw [yExit_t (by omega)]; exact q10.symm, rfl⟩ (Nat.le_of_ble_eq_true rfl) (Nat.le_of_ble_eq_true rfl) dX2_fromExit_39 hlocks)
      · skip
        refine lv_null hx hb dX2_fromExit_24 ?_
        exact (ze_q (u' := (n, am, S)) (z := -1) hx hb hr (Or.inl ⟨_, rfl⟩) hI (ts_rf_n (by decide)).symm (by omega) ⟨by rw [yExit_f (by omega)], rfl⟩ (Nat.le_of_ble_eq_true rfl) (Nat.le_of_ble_eq_true rfl) dX2_fromExit_25 hlocks)
set_option maxHeartbeats 4000000 in
set_option maxRecDepth 100000 in
theorem c_X4_isOutside (l : Launch) (D : va_G) (cA : Nat → ClassId) (n : Nat → Nat) (am : ts_Am) (S : ts_St) (sz : Nat) (a b d : Int) (ha : iR a) (hb1 : iR b) (hd : iR d) : Met l yX4_isOutside wsX4_isOutside ({ frames := 0, cells := 0, slots := 0, locals := 0 } : Room) (va_Pc [.int (iZ a), .int (iZ b), .int (iZ d)] (zP TX D cA (n, am, S) sz)) (zQi TX D cA (n, am, S) sz (fun z u => z = zB (yOut a b d) ∧ u = (n, am, S))) 0 0 (ts_A (n, am, S) sz) := by
  refine zM_of (by decide) rfl (Nat.le_of_ble_eq_true rfl) ?_
  intro p e s m below meth c hx hb hr hts hown hlocks hml hname hK hsz hI ls hl
  subst hsz
  have hown : s.vm.findClass RX4 = some m.cls := hown
  have hl : lv_has ls 3 [(0, .int (iZ a)), (1, .int (iZ b)), (2, .int (iZ d))] := hl
  refine lv_iload_n hx hb dX4_isOutside_0 rfl (lv_at hl 0 rfl) ?_
  refine lv_iload_n hx hb dX4_isOutside_1 rfl (lv_at hl 1 rfl) ?_
  refine z_icmp_lt (tgt := 10) hx hb dX4_isOutside_2 (by decide) (by omega) (by omega) (fun c1 => ?_) (fun c1 => ?_)
  · skip
    refine z_iconst hx hb dX4_isOutside_10 ?_
    refine lv_goto (tgt := 15) hx hb dX4_isOutside_11 (by decide) ?_
    exact (ze_i (u' := (n, am, S)) (z := 1) hx hb hr (iZ_narz (by omega) (by omega)).1 hI (by omega) ⟨(zB_t (by unfold yOut; omega)).symm, rfl⟩ (Nat.le_of_ble_eq_true rfl) (Nat.le_of_ble_eq_true rfl) dX4_isOutside_15 hlocks)
  · skip
    refine lv_iload_n hx hb dX4_isOutside_5 rfl (lv_at hl 0 rfl) ?_
    refine lv_iload_n hx hb dX4_isOutside_6 rfl (lv_at hl 2 rfl) ?_
    refine z_icmp_le (tgt := 14) hx hb dX4_isOutside_7 (by decide) (by omega) (by omega) (fun c2 => ?_) (fun c2 => ?_)
    · skip
      refine z_iconst hx hb dX4_isOutside_14 ?_
      exact (ze_i (u' := (n, am, S)) (z := 0) hx hb hr (iZ_narz (by omega) (by omega)).1 hI (by omega) ⟨(zB_f (by unfold yOut; omega)).symm, rfl⟩ (Nat.le_of_ble_eq_true rfl) (Nat.le_of_ble_eq_true rfl) dX4_isOutside_15 hlocks)
    · skip
      refine z_iconst hx hb dX4_isOutside_10 ?_
      refine lv_goto (tgt := 15) hx hb dX4_isOutside_11 (by decide) ?_
      exact (ze_i (u' := (n, am, S)) (z := 1) hx hb hr (iZ_narz (by omega) (by omega)).1 hI (by omega) ⟨(zB_t (by unfold yOut; omega)).symm, rfl⟩ (Nat.le_of_ble_eq_true rfl) (Nat.le_of_ble_eq_true rfl) dX4_isOutside_15 hlocks)
