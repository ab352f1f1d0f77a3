/-! The class's leaves: what each answers, and what it writes. -/
def cSp (κ k : Nat) : Bool := (κ == 0 && (k == 0 || k == 1 || k == 2 || k == 3 || k == 4)) || κ == 1 || κ == 2 || κ == 3 || κ == 4 || (κ == 5 && (k == 0 || k == 3)) || (κ == 8 && k == 0)
/-- what stands wherever no lane, door or appointment is being made: the yard's parts, a lane's own array, the rows' contents, the numbers -/
def cW (n : Nat → Nat) (S : ts_St) : Prop := (0 < n 0 ∧ 0 < n 1 ∧ 0 < n 2 ∧ 0 < n 3 ∧ 0 < n 4) ∧ (S 0 0 0 = ((0 : Nat) : Int) ∧ S 0 0 1 = ((0 : Nat) : Int) ∧ S 0 0 3 = ((0 : Nat) : Int) ∧ S 1 0 0 = ((0 : Nat) : Int)) ∧ (∀ i, i < n 5 → i < n 6 ∧ S 5 i 3 = (i : Int)) ∧ (∀ κ, n κ ≤ 1000)
  ∧ (S 0 0 2 = (n 7 : Int) ∧ S 0 0 4 = (n 8 : Int) ∧ S 1 0 1 = (n 5 : Int)) ∧ (∀ k, k < n 5 → S 2 0 k = (k : Int) ∧ S 5 k 0 = (k : Int)) ∧ (∀ k, k < n 7 → S 3 0 k = (k : Int)) ∧ (∀ k, k < n 8 → S 4 0 k = (k : Int) ∧ S 8 k 0 = (k : Int)) ∧ n 5 ≤ 4 ∧ n 7 ≤ 4 ∧ n 8 ≤ 40
theorem cW.cn {n : Nat → Nat} {S : ts_St} (h : cW n S) : S 0 0 2 = (n 7 : Int) ∧ S 0 0 4 = (n 8 : Int) ∧ S 1 0 1 = (n 5 : Int) := h.2.2.2.2.1
theorem cW.la {n : Nat → Nat} {S : ts_St} (h : cW n S) {k : Nat} (hk : k < n 5) : S 2 0 k = (k : Int) := (h.2.2.2.2.2.1 k hk).1
theorem cW.ln {n : Nat → Nat} {S : ts_St} (h : cW n S) {k : Nat} (hk : k < n 5) : S 5 k 0 = (k : Int) := (h.2.2.2.2.2.1 k hk).2
theorem cW.da {n : Nat → Nat} {S : ts_St} (h : cW n S) {k : Nat} (hk : k < n 7) : S 3 0 k = (k : Int) := h.2.2.2.2.2.2.1 k hk
theorem cW.aa {n : Nat → Nat} {S : ts_St} (h : cW n S) {k : Nat} (hk : k < n 8) : S 4 0 k = (k : Int) := (h.2.2.2.2.2.2.2.1 k hk).1
theorem cW.an {n : Nat → Nat} {S : ts_St} (h : cW n S) {k : Nat} (hk : k < n 8) : S 8 k 0 = (k : Int) := (h.2.2.2.2.2.2.2.1 k hk).2
theorem cW.lim {n : Nat → Nat} {S : ts_St} (h : cW n S) : n 5 ≤ 4 ∧ n 7 ≤ 4 ∧ n 8 ≤ 40 := h.2.2.2.2.2.2.2.2
theorem cW.put {n : Nat → Nat} {S : ts_St} {κ i k : Nat} {v : Int} (h : cW n S) (hk : cSp κ k = false) : cW n (up3 S κ i k v) := by
  have hne : ∀ a b c : Nat, cSp a c = true → up3 S κ i k v a b c = S a b c := fun a b c hac => up3_n (fun q => by
    obtain ⟨rfl, -, rfl⟩ := q
    rw [hk] at hac
    cases hac)
  refine ⟨h.1, ⟨?_, ?_, ?_, ?_⟩, fun j hj => ⟨(h.2.2.1 j hj).1, ?_⟩, h.2.2.2.1, ⟨?_, ?_, ?_⟩, fun j hj => ⟨?_, ?_⟩, fun j hj => ?_, fun j hj => ⟨?_, ?_⟩, h.lim⟩
  · rw [hne 0 0 0 rfl]; exact h.2.1.1
  · rw [hne 0 0 1 rfl]; exact h.2.1.2.1
  · rw [hne 0 0 3 rfl]; exact h.2.1.2.2.1
  · rw [hne 1 0 0 rfl]; exact h.2.1.2.2.2
  · rw [hne 5 j 3 rfl]; exact (h.2.2.1 j hj).2
  · rw [hne 0 0 2 rfl]; exact h.cn.1
  · rw [hne 0 0 4 rfl]; exact h.cn.2.1
  · rw [hne 1 0 1 rfl]; exact h.cn.2.2
  · rw [hne 2 0 j rfl]; exact h.la hj
  · rw [hne 5 j 0 rfl]; exact h.ln hj
  · rw [hne 3 0 j rfl]; exact h.da hj
  · rw [hne 4 0 j rfl]; exact h.aa hj
  · rw [hne 8 j 0 rfl]; exact h.an hj
def yTake (S : ts_St) (i j : Nat) : Prop := S 5 i 4 < S 5 i 1 ∧ (¬ S 5 i 2 = 0 ∨ ¬ S 8 j 2 = 99)
def yServe (S : ts_St) (d j : Nat) : Prop := S 7 d 1 = 0 ∧ (S 7 d 0 = 98 ∨ S 7 d 0 = S 8 j 2)
def yCame (S : ts_St) (j : Nat) : Prop := ¬ S 8 j 4 = 98 ∧ ¬ S 8 j 4 = 110
def yBefore (S : ts_St) (i j : Nat) : Int := S 5 i 4 - 1 - S 8 j 8
def yExit (S : ts_St) (i : Nat) (x : Int) : Int := if 0 ≤ x ∧ x < S 5 i 4 ∧ S 5 i 4 ≤ 3 then S 6 i (S 5 i 4 - 1 - x).toNat else -1
theorem yExit_t {S : ts_St} {i : Nat} {x : Int} (h : 0 ≤ x ∧ x < S 5 i 4 ∧ S 5 i 4 ≤ 3) : yExit S i x = S 6 i (S 5 i 4 - 1 - x).toNat := if_pos h
theorem yExit_f {S : ts_St} {i : Nat} {x : Int} (h : ¬ (0 ≤ x ∧ x < S 5 i 4 ∧ S 5 i 4 ≤ 3)) : yExit S i x = -1 := if_neg h
theorem yExit_in {S : ts_St} {i : Nat} {x : Int} (h : 0 ≤ yExit S i x) : 0 ≤ x ∧ x < S 5 i 4 ∧ S 5 i 4 ≤ 3 := by
  by_cases q : 0 ≤ x ∧ x < S 5 i 4 ∧ S 5 i 4 ≤ 3
  · exact q
  · rw [yExit_f q] at h
    omega
def yIn (S : ts_St) (i j : Nat) : ts_St := up3 (up3 (up3 (up3 S 6 i (S 5 i 4).toNat (j : Int)) 8 j 7 (i : Int)) 8 j 8 (S 5 i 4)) 5 i 4 (S 5 i 4 + 1)
def yLane (S : ts_St) (x : Int) : Int := if 0 ≤ x ∧ x < S 1 0 1 ∧ x < 4 then S 2 0 x.toNat else -1
theorem yLane_t {S : ts_St} {x : Int} (h : 0 ≤ x ∧ x < S 1 0 1 ∧ x < 4) : yLane S x = S 2 0 x.toNat := if_pos h
theorem yLane_f {S : ts_St} {x : Int} (h : ¬ (0 ≤ x ∧ x < S 1 0 1 ∧ x < 4)) : yLane S x = -1 := if_neg h
def yTakeOut (S : ts_St) (i : Nat) : ts_St := if 0 ≤ yExit S i 0 then up3 (up3 S 5 i 4 (S 5 i 4 - 1)) 8 (yExit S i 0).toNat 7 (-1) else S
theorem yTakeOut_t {S : ts_St} {i : Nat} (h : 0 ≤ yExit S i 0) : yTakeOut S i = up3 (up3 S 5 i 4 (S 5 i 4 - 1)) 8 (yExit S i 0).toNat 7 (-1) := if_pos h
theorem yTakeOut_f {S : ts_St} {i : Nat} (h : ¬ 0 ≤ yExit S i 0) : yTakeOut S i = S := if_neg h
def yBring (S : ts_St) (i j : Nat) : ts_St := if 0 ≤ S 5 i 4 ∧ S 5 i 4 < 3 then yIn S i j else S
theorem yBring_t {S : ts_St} {i j : Nat} (h : 0 ≤ S 5 i 4 ∧ S 5 i 4 < 3) : yBring S i j = yIn S i j := if_pos h
theorem yBring_f {S : ts_St} {i j : Nat} (h : ¬ (0 ≤ S 5 i 4 ∧ S 5 i 4 < 3)) : yBring S i j = S := if_neg h
def ySum (S : ts_St) : Nat → Int
  | 0 => 0
  | k + 1 => ySum S k + (if 0 ≤ yLane S (k : Int) then S 5 (yLane S (k : Int)).toNat 4 else 0)
theorem ySum_s {S : ts_St} {y : Int} (h : 0 ≤ y) : ySum S (y + 1).toNat = ySum S y.toNat + (if 0 ≤ yLane S y then S 5 (yLane S y).toNat 4 else 0) := by
  obtain ⟨k, rfl⟩ := Int.eq_ofNat_of_zero_le h
  rfl
theorem yTakeOut_W {n : Nat → Nat} {S : ts_St} {i : Nat} (h : cW n S) : cW n (yTakeOut S i) := by
  unfold yTakeOut
  split
  · exact (h.put rfl).put rfl
  · exact h
theorem yBring_W {n : Nat → Nat} {S : ts_St} {i j : Nat} (h : cW n S) : cW n (yBring S i j) := by
  unfold yBring
  split
  · exact (((h.put rfl).put rfl).put rfl).put rfl
  · exact h
theorem yTakeOut_n {S : ts_St} {i a b c : Nat} (h : ¬ (a = 5 ∨ a = 8)) : yTakeOut S i a b c = S a b c := by
  unfold yTakeOut
  split
  · rw [up3_n (by omega), up3_n (by omega)]
  · rfl
theorem yBring_n {S : ts_St} {i j a b c : Nat} (h : ¬ (a = 5 ∨ a = 6 ∨ a = 8)) : yBring S i j a b c = S a b c := by
  unfold yBring
  split
  · unfold yIn
    rw [up3_n (by omega), up3_n (by omega), up3_n (by omega), up3_n (by omega)]
  · rfl
def yAllow (S : ts_St) (a b : Int) : Prop := ¬ a = b ∧ 0 ≤ yLane S a ∧ 0 ≤ yLane S b ∧ 0 ≤ yExit S (yLane S a).toNat 0 ∧ yTake S (yLane S b).toNat (yExit S (yLane S a).toNat 0).toNat
def yMove (S : ts_St) (a b : Int) : ts_St := if 0 ≤ yLane S a ∧ 0 ≤ yLane S b ∧ 0 ≤ yExit S (yLane S a).toNat 0 then yBring (yTakeOut S (yLane S a).toNat) (yLane S b).toNat (yExit S (yLane S a).toNat 0).toNat else S
theorem yMove_t {S : ts_St} {a b : Int} (h : 0 ≤ yLane S a ∧ 0 ≤ yLane S b ∧ 0 ≤ yExit S (yLane S a).toNat 0) : yMove S a b = yBring (yTakeOut S (yLane S a).toNat) (yLane S b).toNat (yExit S (yLane S a).toNat 0).toNat := if_pos h
theorem yMove_f {S : ts_St} {a b : Int} (h : ¬ (0 ≤ yLane S a ∧ 0 ≤ yLane S b ∧ 0 ≤ yExit S (yLane S a).toNat 0)) : yMove S a b = S := if_neg h
theorem yMove_W {n : Nat → Nat} {S : ts_St} {a b : Int} (h : cW n S) : cW n (yMove S a b) := by
  unfold yMove
  split
  · exact yBring_W (yTakeOut_W h)
  · exact h
theorem yAllow_t {S : ts_St} {a b : Int} {i k j : Nat} (h : ¬ a = b) (e1 : (i : Int) = yLane S a) (e2 : (k : Int) = yLane S b) (e3 : (j : Int) = yExit S i 0) (h4 : yTake S k j) : yAllow S a b := by
  unfold yAllow
  rw [← e1, ← e2, Int.toNat_natCast, Int.toNat_natCast, ← e3, Int.toNat_natCast]
  exact ⟨h, by omega, by omega, by omega, h4⟩
theorem yAllow_f4 {S : ts_St} {a b : Int} {i k j : Nat} (e1 : (i : Int) = yLane S a) (e2 : (k : Int) = yLane S b) (e3 : (j : Int) = yExit S i 0) (h4 : ¬ yTake S k j) : ¬ yAllow S a b := by
  unfold yAllow
  rw [← e1, ← e2, Int.toNat_natCast, Int.toNat_natCast, ← e3, Int.toNat_natCast]
  exact fun q => h4 q.2.2.2.2
theorem yAllow_f3 {S : ts_St} {a b : Int} {i : Nat} (e1 : (i : Int) = yLane S a) (e3 : -1 = yExit S i 0) : ¬ yAllow S a b := by
  unfold yAllow
  rw [← e1, Int.toNat_natCast, ← e3]
  exact fun q => absurd q.2.2.2.1 (by decide)
theorem yMove_3 {S : ts_St} {a b : Int} {i k j : Nat} (e1 : (i : Int) = yLane S a) (e2 : (k : Int) = yLane S b) (e3 : (j : Int) = yExit S i 0) : yMove S a b = yBring (yTakeOut S i) k j := by
  rw [yMove_t (by rw [← e1, Int.toNat_natCast, ← e3]; omega), ← e1, ← e2, Int.toNat_natCast, Int.toNat_natCast, ← e3, Int.toNat_natCast]
theorem yMove_n {S : ts_St} {a b : Int} {i : Nat} (e1 : (i : Int) = yLane S a) (e3 : -1 = yExit S i 0) : yMove S a b = yTakeOut S i := by
  rw [yMove_f (by rw [← e1, Int.toNat_natCast, ← e3]; omega), yTakeOut_f (by omega)]
/-- the row of lanes, and how many trailers stand in each, in range -/
def cOk (n : Nat → Nat) (S : ts_St) : Prop := (0 ≤ S 1 0 1 ∧ S 1 0 1 ≤ 4) ∧ ∀ i, i < n 5 → 0 ≤ S 5 i 4 ∧ S 5 i 4 ≤ 3
theorem yLane_W {n : Nat → Nat} {S : ts_St} (h : cW n S) {x : Int} (h0 : 0 ≤ x) (h1 : x < (n 5 : Int)) : yLane S x = x := by
  have h2 := h.cn
  have h3 := h.lim
  rw [yLane_t (by omega), h.la (by omega)]
  omega
theorem yLane_N {n : Nat → Nat} {S : ts_St} (h : cW n S) {x : Int} (h1 : ¬ (0 ≤ x ∧ x < (n 5 : Int))) : yLane S x = -1 := by
  have h2 := h.cn
  exact yLane_f (by omega)
theorem yLane_in {n : Nat → Nat} {S : ts_St} (h : cW n S) {x : Int} (h1 : 0 ≤ yLane S x) : 0 ≤ x ∧ x < (n 5 : Int) ∧ yLane S x = x := by
  by_cases q : 0 ≤ x ∧ x < (n 5 : Int)
  · exact ⟨q.1, q.2, yLane_W h q.1 q.2⟩
  · rw [yLane_N h q] at h1
    omega
def yOut (a b c : Int) : Prop := a < b ∨ c < a

set_option maxHeartbeats 4000000 in
set_option maxRecDepth 100000 in
theorem c_X0_hasArrived (l : Launch) (D : va_G) (cA : Nat → ClassId) (n : Nat → Nat) (am : ts_Am) (S : ts_St) (sz : Nat) (j : Nat) (hj : j < n 8) : Met l yX0_hasArrived wsX0_hasArrived ({ frames := 0, cells := 0, slots := 0, locals := 0 } : Room) (va_Pc [.ref (am 8 j)] (zP TX D cA (n, am, S) sz)) (zQi TX D cA (n, am, S) sz (fun z u => z = zB (yCame S j) ∧ u = (n, am, S))) 0 0 (ts_A (n, am, S) sz) := by
  refine zM_of (by decide) rfl (Nat.le_of_ble_eq_true rfl) ?_
  intro p e s m below meth c hx hb hr hts hown hlocks hml hname hK hsz H locs hI ls hl
  subst hsz
  have hown : s.vm.findClass RX0 = some m.cls := hown
  have hl : lv_has ls 1 [(0, .ref (am 8 j))] := hl
  have f25 := hts (.fieldLink RX0 25 "DockyardSlots$Appointment" "state" "C") (by decide +kernel)
  have LX0 : ∀ w ∈ wsX00, w.before [.ref (am 8 j)].toArray s = true := fun w h => hts w (List.mem_cons_of_mem _ (List.mem_append_right _ h))
  refine lv_aload_n hx hb dX0_hasArrived_0 rfl (lv_at hl 0 rfl) ?_
  refine zg_i (κ := 8) (i := j) (k := 4) hx hb LX0 hown hK hI hj rfl rfl (by decide) rfl f25 (fun _ h9 => h9) dX0_hasArrived_1 rfl (fun b1 => ?_)
  refine z_bipush hx hb dX0_hasArrived_4 (by decide) ?_
  refine z_icmp_eq (tgt := 22) hx hb dX0_hasArrived_6 (by decide) (by omega) (by omega) (fun c2 => ?_) (fun c2 => ?_)
  · skip
    refine z_iconst hx hb dX0_hasArrived_22 ?_
    exact (ze_i (u' := (n, am, S)) (z := 0) hx hb hr (iZ_narz (by omega) (by omega)).1 hI (by omega) ⟨(zB_f (by unfold yCame; omega)).symm, rfl⟩ (Nat.le_of_ble_eq_true rfl) (Nat.le_of_ble_eq_true rfl) dX0_hasArrived_23 hlocks)
  · skip
    refine lv_aload_n hx hb dX0_hasArrived_9 rfl (lv_at hl 0 rfl) ?_
    refine zg_i (κ := 8) (i := j) (k := 4) hx hb LX0 hown hK hI hj rfl rfl (by decide) rfl f25 (fun _ h9 => h9) dX0_hasArrived_10 rfl (fun b3 => ?_)
    refine z_bipush hx hb dX0_hasArrived_13 (by decide) ?_
    refine z_icmp_eq (tgt := 22) hx hb dX0_hasArrived_15 (by decide) (by omega) (by omega) (fun c4 => ?_) (fun c4 => ?_)
    · skip
      refine z_iconst hx hb dX0_hasArrived_22 ?_
      exact (ze_i (u' := (n, am, S)) (z := 0) hx hb hr (iZ_narz (by omega) (by omega)).1 hI (by omega) ⟨(zB_f (by unfold yCame; omega)).symm, rfl⟩ (Nat.le_of_ble_eq_true rfl) (Nat.le_of_ble_eq_true rfl) dX0_hasArrived_23 hlocks)
    · skip
      refine z_iconst hx hb dX0_hasArrived_18 ?_
      refine lv_goto (tgt := 23) hx hb dX0_hasArrived_19 (by decide) ?_
      exact (ze_i (u' := (n, am, S)) (z := 1) hx hb hr (iZ_narz (by omega) (by omega)).1 hI (by omega) ⟨(zB_t (by unfold yCame; omega)).symm, rfl⟩ (Nat.le_of_ble_eq_true rfl) (Nat.le_of_ble_eq_true rfl) dX0_hasArrived_23 hlocks)
set_option maxHeartbeats 4000000 in
set_option maxRecDepth 100000 in
theorem c_X0_doneAt (l : Launch) (D : va_G) (cA : Nat → ClassId) (n : Nat → Nat) (am : ts_Am) (S : ts_St) (sz : Nat) (j : Nat) (hj : j < n 8) : Met l yX0_doneAt wsX0_doneAt ({ frames := 0, cells := 0, slots := 0, locals := 0 } : Room) (va_Pc [.ref (am 8 j)] (zP TX D cA (n, am, S) sz)) (zQi TX D cA (n, am, S) sz (fun z u => z = (S 8 j 6 + S 8 j 3) ∧ u = (n, am, S))) 0 0 (ts_A (n, am, S) sz) := by
  refine zM_of (by decide) rfl (Nat.le_of_ble_eq_true rfl) ?_
  intro p e s m below meth c hx hb hr hts hown hlocks hml hname hK hsz H locs hI ls hl
  subst hsz
  have hown : s.vm.findClass RX0 = some m.cls := hown
  have hl : lv_has ls 1 [(0, .ref (am 8 j))] := hl
  have f22 := hts (.fieldLink RX0 22 "DockyardSlots$Appointment" "work" "I") (by decide +kernel)
  have f28 := hts (.fieldLink RX0 28 "DockyardSlots$Appointment" "dockedAt" "I") (by decide +kernel)
  have LX0 : ∀ w ∈ wsX00, w.before [.ref (am 8 j)].toArray s = true := fun w h => hts w (List.mem_cons_of_mem _ (List.mem_append_right _ h))
  refine lv_aload_n hx hb dX0_doneAt_0 rfl (lv_at hl 0 rfl) ?_
  refine zg_i (κ := 8) (i := j) (k := 6) hx hb LX0 hown hK hI hj rfl rfl (by decide) rfl f28 (fun _ h9 => h9) dX0_doneAt_1 rfl (fun b1 => ?_)
  refine lv_aload_n hx hb dX0_doneAt_4 rfl (lv_at hl 0 rfl) ?_
  refine zg_i (κ := 8) (i := j) (k := 3) hx hb LX0 hown hK hI hj rfl rfl (by decide) rfl f22 (fun _ h9 => h9) dX0_doneAt_5 rfl (fun b2 => ?_)
  refine z_iadd hx hb dX0_doneAt_8 ?_
  exact (ze_i (u' := (n, am, S)) (z := (S 8 j 6 + S 8 j 3)) hx hb hr rfl hI (by omega) ⟨rfl, rfl⟩ (Nat.le_of_ble_eq_true rfl) (Nat.le_of_ble_eq_true rfl) dX0_doneAt_9 hlocks)
set_option maxHeartbeats 4000000 in
set_option maxRecDepth 100000 in
theorem c_X1_canTake (l : Launch) (D : va_G) (cA : Nat → ClassId) (n : Nat → Nat) (am : ts_Am) (S : ts_St) (sz : Nat) (d j : Nat) (hd : d < n 7) (hj : j < n 8) : Met l yX1_canTake wsX1_canTake ({ frames := 0, cells := 0, slots := 0, locals := 0 } : Room) (va_Pc [.ref (am 7 d), .ref (am 8 j)] (zP TX D cA (n, am, S) sz)) (zQi TX D cA (n, am, S) sz (fun z u => z = zB (yServe S d j) ∧ u = (n, am, S))) 0 0 (ts_A (n, am, S) sz) := by
  refine zM_of (by decide) rfl (Nat.le_of_ble_eq_true rfl) ?_
  intro p e s m below meth c hx hb hr hts hown hlocks hml hname hK hsz H locs hI ls hl
  subst hsz
  have hown : s.vm.findClass RX1 = some m.cls := hown
  have hl : lv_has ls 2 [(0, .ref (am 7 d)), (1, .ref (am 8 j))] := hl
  have f15 := hts (.fieldLink RX1 15 "DockyardSlots$Door" "isUsed" "Z") (by decide +kernel)
  have f19 := hts (.fieldLink RX1 19 "DockyardSlots$Appointment" "kind" "C") (by decide +kernel)
  have f9 := hts (.fieldLink RX1 9 "DockyardSlots$Door" "kind" "C") (by decide +kernel)
  have LX0 : ∀ w ∈ wsX00, w.before [.ref (am 7 d), .ref (am 8 j)].toArray s = true := fun w h => hts w (List.mem_cons_of_mem _ (List.mem_append_right _ h))
  have LX1 : ∀ w ∈ wsX10, w.before [.ref (am 7 d), .ref (am 8 j)].toArray s = true := fun w h => hts w (List.mem_cons_of_mem _ (List.mem_append_left _ (List.mem_append_right _ h)))
  refine lv_aload_n hx hb dX1_canTake_0 rfl (lv_at hl 0 rfl) ?_
  refine zg_i (κ := 7) (i := d) (k := 1) hx hb LX1 hown hK hI hd rfl rfl (by decide) rfl f15 (fun _ h9 => h9) dX1_canTake_1 rfl (fun b1 => ?_)
  refine z_if_ne (tgt := 31) hx hb dX1_canTake_4 (by decide) (by omega) (fun c2 => ?_) (fun c2 => ?_)
  · skip
    refine z_iconst hx hb dX1_canTake_31 ?_
    exact (ze_i (u' := (n, am, S)) (z := 0) hx hb hr (iZ_narz (by omega) (by omega)).1 hI (by omega) ⟨(zB_f (by unfold yServe; omega)).symm, rfl⟩ (Nat.le_of_ble_eq_true rfl) (Nat.le_of_ble_eq_true rfl) dX1_canTake_32 hlocks)
  · skip
    refine lv_aload_n hx hb dX1_canTake_7 rfl (lv_at hl 0 rfl) ?_
    refine zg_i (κ := 7) (i := d) (k := 0) hx hb LX1 hown hK hI hd rfl rfl (by decide) rfl f9 (fun _ h9 => h9) dX1_canTake_8 rfl (fun b3 => ?_)
    refine z_bipush hx hb dX1_canTake_11 (by decide) ?_
    refine z_icmp_eq (tgt := 27) hx hb dX1_canTake_13 (by decide) (by omega) (by omega) (fun c4 => ?_) (fun c4 => ?_)
    · skip
      refine z_iconst hx hb dX1_canTake_27 ?_
      refine lv_goto (tgt := 32) hx hb dX1_canTake_28 (by decide) ?_
      exact (ze_i (u' := (n, am, S)) (z := 1) hx hb hr (iZ_narz (by omega) (by omega)).1 hI (by omega) ⟨(zB_t (by unfold yServe; omega)).symm, rfl⟩ (Nat.le_of_ble_eq_true rfl) (Nat.le_of_ble_eq_true rfl) dX1_canTake_32 hlocks)
    · skip
      refine lv_aload_n hx hb dX1_canTake_16 rfl (lv_at hl 0 rfl) ?_
      refine zg_i (κ := 7) (i := d) (k := 0) hx hb LX1 hown hK hI hd rfl rfl (by decide) rfl f9 (fun _ h9 => h9) dX1_canTake_17 rfl (fun b5 => ?_)
      refine lv_aload_n hx hb dX1_canTake_20 rfl (lv_at hl 1 rfl) ?_
      refine zg_i (κ := 8) (i := j) (k := 2) hx hb LX0 hown hK hI hj rfl rfl (by decide) rfl f19 (fun _ h9 => h9) dX1_canTake_21 rfl (fun b6 => ?_)
      refine z_icmp_ne (tgt := 31) hx hb dX1_canTake_24 (by decide) (by omega) (by omega) (fun c7 => ?_) (fun c7 => ?_)
      · skip
        refine z_iconst hx hb dX1_canTake_31 ?_
        exact (ze_i (u' := (n, am, S)) (z := 0) hx hb hr (iZ_narz (by omega) (by omega)).1 hI (by omega) ⟨(zB_f (by unfold yServe; omega)).symm, rfl⟩ (Nat.le_of_ble_eq_true rfl) (Nat.le_of_ble_eq_true rfl) dX1_canTake_32 hlocks)
      · skip
        refine z_iconst hx hb dX1_canTake_27 ?_
        refine lv_goto (tgt := 32) hx hb dX1_canTake_28 (by decide) ?_
        exact (ze_i (u' := (n, am, S)) (z := 1) hx hb hr (iZ_narz (by omega) (by omega)).1 hI (by omega) ⟨(zB_t (by unfold yServe; omega)).symm, rfl⟩ (Nat.le_of_ble_eq_true rfl) (Nat.le_of_ble_eq_true rfl) dX1_canTake_32 hlocks)
set_option maxHeartbeats 4000000 in
set_option maxRecDepth 100000 in
theorem c_X2_canTake (l : Launch) (D : va_G) (cA : Nat → ClassId) (n : Nat → Nat) (am : ts_Am) (S : ts_St) (sz : Nat) (i j : Nat) (hi : i < n 5) (hj : j < n 8) : Met l yX2_canTake wsX2_canTake ({ frames := 0, cells := 0, slots := 0, locals := 0 } : Room) (va_Pc [.ref (am 5 i), .ref (am 8 j)] (zP TX D cA (n, am, S) sz)) (zQi TX D cA (n, am, S) sz (fun z u => z = zB (yTake S i j) ∧ u = (n, am, S))) 0 0 (ts_A (n, am, S) sz) := by
  refine zM_of (by decide) rfl (Nat.le_of_ble_eq_true rfl) ?_
  intro p e s m below meth c hx hb hr hts hown hlocks hml hname hK hsz H locs hI ls hl
  subst hsz
  have hown : s.vm.findClass RX2 = some m.cls := hown
  have hl : lv_has ls 2 [(0, .ref (am 5 i)), (1, .ref (am 8 j))] := hl
  have f15 := hts (.fieldLink RX2 15 "DockyardSlots$Lane" "capacity" "I") (by decide +kernel)
  have f18 := hts (.fieldLink RX2 18 "DockyardSlots$Lane" "hasPower" "Z") (by decide +kernel)
  have f28 := hts (.fieldLink RX2 28 "DockyardSlots$Lane" "count" "I") (by decide +kernel)
  have f31 := hts (.fieldLink RX2 31 "DockyardSlots$Appointment" "kind" "C") (by decide +kernel)
  have LX0 : ∀ w ∈ wsX00, w.before [.ref (am 5 i), .ref (am 8 j)].toArray s = true := fun w h => hts w (List.mem_cons_of_mem _ (List.mem_append_right _ h))
  have LX2 : ∀ w ∈ wsX20, w.before [.ref (am 5 i), .ref (am 8 j)].toArray s = true := fun w h => hts w (List.mem_cons_of_mem _ (List.mem_append_left _ (List.mem_append_right _ h)))
  refine lv_aload_n hx hb dX2_canTake_0 rfl (lv_at hl 0 rfl) ?_
  refine zg_i (κ := 5) (i := i) (k := 4) hx hb LX2 hown hK hI hi rfl rfl (by decide) rfl f28 (fun _ h9 => h9) dX2_canTake_1 rfl (fun b1 => ?_)
  refine lv_aload_n hx hb dX2_canTake_4 rfl (lv_at hl 0 rfl) ?_
  refine zg_i (κ := 5) (i := i) (k := 1) hx hb LX2 hown hK hI hi rfl rfl (by decide) rfl f15 (fun _ h9 => h9) dX2_canTake_5 rfl (fun b2 => ?_)
  refine z_icmp_ge (tgt := 31) hx hb dX2_canTake_8 (by decide) (by omega) (by omega) (fun c3 => ?_) (fun c3 => ?_)
  · skip
    refine z_iconst hx hb dX2_canTake_31 ?_
    exact (ze_i (u' := (n, am, S)) (z := 0) hx hb hr (iZ_narz (by omega) (by omega)).1 hI (by omega) ⟨(zB_f (by unfold yTake; omega)).symm, rfl⟩ (Nat.le_of_ble_eq_true rfl) (Nat.le_of_ble_eq_true rfl) dX2_canTake_32 hlocks)
  · skip
    refine lv_aload_n hx hb dX2_canTake_11 rfl (lv_at hl 0 rfl) ?_
    refine zg_i (κ := 5) (i := i) (k := 2) hx hb LX2 hown hK hI hi rfl rfl (by decide) rfl f18 (fun _ h9 => h9) dX2_canTake_12 rfl (fun b4 => ?_)
    refine z_if_ne (tgt := 27) hx hb dX2_canTake_15 (by decide) (by omega) (fun c5 => ?_) (fun c5 => ?_)
    · skip
      refine z_iconst hx hb dX2_canTake_27 ?_
      refine lv_goto (tgt := 32) hx hb dX2_canTake_28 (by decide) ?_
      exact (ze_i (u' := (n, am, S)) (z := 1) hx hb hr (iZ_narz (by omega) (by omega)).1 hI (by omega) ⟨(zB_t (by unfold yTake; omega)).symm, rfl⟩ (Nat.le_of_ble_eq_true rfl) (Nat.le_of_ble_eq_true rfl) dX2_canTake_32 hlocks)
    · skip
      refine lv_aload_n hx hb dX2_canTake_18 rfl (lv_at hl 1 rfl) ?_
      refine zg_i (κ := 8) (i := j) (k := 2) hx hb LX0 hown hK hI hj rfl rfl (by decide) rfl f31 (fun _ h9 => h9) dX2_canTake_19 rfl (fun b6 => ?_)
      refine z_bipush hx hb dX2_canTake_22 (by decide) ?_
      refine z_icmp_eq (tgt := 31) hx hb dX2_canTake_24 (by decide) (by omega) (by omega) (fun c7 => ?_) (fun c7 => ?_)
      · skip
        refine z_iconst hx hb dX2_canTake_31 ?_
        exact (ze_i (u' := (n, am, S)) (z := 0) hx hb hr (iZ_narz (by omega) (by omega)).1 hI (by omega) ⟨(zB_f (by unfold yTake; omega)).symm, rfl⟩ (Nat.le_of_ble_eq_true rfl) (Nat.le_of_ble_eq_true rfl) dX2_canTake_32 hlocks)
      · skip
        refine z_iconst hx hb dX2_canTake_27 ?_
        refine lv_goto (tgt := 32) hx hb dX2_canTake_28 (by decide) ?_
        exact (ze_i (u' := (n, am, S)) (z := 1) hx hb hr (iZ_narz (by omega) (by omega)).1 hI (by omega) ⟨(zB_t (by unfold yTake; omega)).symm, rfl⟩ (Nat.le_of_ble_eq_true rfl) (Nat.le_of_ble_eq_true rfl) dX2_canTake_32 hlocks)
set_option maxHeartbeats 4000000 in
set_option maxRecDepth 100000 in
theorem c_X2_countBefore (l : Launch) (D : va_G) (cA : Nat → ClassId) (n : Nat → Nat) (am : ts_Am) (S : ts_St) (sz : Nat) (i j : Nat) (hi : i < n 5) (hj : j < n 8) : Met l yX2_countBefore wsX2_countBefore ({ frames := 0, cells := 0, slots := 0, locals := 0 } : Room) (va_Pc [.ref (am 5 i), .ref (am 8 j)] (zP TX D cA (n, am, S) sz)) (zQi TX D cA (n, am, S) sz (fun z u => z = yBefore S i j ∧ u = (n, am, S))) 0 0 (ts_A (n, am, S) sz) := by
  refine zM_of (by decide) rfl (Nat.le_of_ble_eq_true rfl) ?_
  intro p e s m below meth c hx hb hr hts hown hlocks hml hname hK hsz H locs hI ls hl
  subst hsz
  have hown : s.vm.findClass RX2 = some m.cls := hown
  have hl : lv_has ls 2 [(0, .ref (am 5 i)), (1, .ref (am 8 j))] := hl
  have f28 := hts (.fieldLink RX2 28 "DockyardSlots$Lane" "count" "I") (by decide +kernel)
  have f39 := hts (.fieldLink RX2 39 "DockyardSlots$Appointment" "place" "I") (by decide +kernel)
  have LX0 : ∀ w ∈ wsX00, w.before [.ref (am 5 i), .ref (am 8 j)].toArray s = true := fun w h => hts w (List.mem_cons_of_mem _ (List.mem_append_right _ h))
  have LX2 : ∀ w ∈ wsX20, w.before [.ref (am 5 i), .ref (am 8 j)].toArray s = true := fun w h => hts w (List.mem_cons_of_mem _ (List.mem_append_left _ (List.mem_append_right _ h)))
  refine lv_aload_n hx hb dX2_countBefore_0 rfl (lv_at hl 0 rfl) ?_
  refine zg_i (κ := 5) (i := i) (k := 4) hx hb LX2 hown hK hI hi rfl rfl (by decide) rfl f28 (fun _ h9 => h9) dX2_countBefore_1 rfl (fun b1 => ?_)
  refine z_iconst hx hb dX2_countBefore_4 ?_
  refine z_isub hx hb dX2_countBefore_5 ?_
  refine lv_aload_n hx hb dX2_countBefore_6 rfl (lv_at hl 1 rfl) ?_
  refine zg_i (κ := 8) (i := j) (k := 8) hx hb LX0 hown hK hI hj rfl rfl (by decide) rfl f39 (fun _ h9 => h9) dX2_countBefore_7 rfl (fun b2 => ?_)
  refine z_isub hx hb dX2_countBefore_10 ?_
  exact (ze_i (u' := (n, am, S)) (z := ((S 5 i 4 - 1) - S 8 j 8)) hx hb hr rfl hI (by omega) ⟨rfl, rfl⟩ (Nat.le_of_ble_eq_true rfl) (Nat.le_of_ble_eq_true rfl) dX2_countBefore_11 hlocks)
set_option maxHeartbeats 4000000 in
set_option maxRecDepth 100000 in
theorem c_X2_fromExit (l : Launch) (D : va_G) (cA : Nat → ClassId) (n : Nat → Nat) (am : ts_Am) (S : ts_St) (sz : Nat) (i : Nat) (x : Int) (hW : cW n S) (hi : i < n 5) (hx0 : iR x) : Met l yX2_fromExit wsX2_fromExit ({ frames := 0, cells := 0, slots := 0, locals := 0 } : Room) (va_Pc [.ref (am 5 i), .int (iZ x)] (zP TX D cA (n, am, S) sz)) (zQq TX D cA (n, am, S) sz 8 (fun z u => z = yExit S i x ∧ u = (n, am, S))) 0 0 (ts_A (n, am, S) sz) := by
  refine zM_of (by decide) rfl (Nat.le_of_ble_eq_true rfl) ?_
  intro p e s m below meth c hx hb hr hts hown hlocks hml hname hK hsz H locs hI ls hl
  subst hsz
  have hown : s.vm.findClass RX2 = some m.cls := hown
  have hl : lv_has ls 2 [(0, .ref (am 5 i)), (1, .int (iZ x))] := hl
  have f24 := hts (.fieldLink RX2 24 "DockyardSlots$Lane" "trailers" "[LDockyardSlots$Appointment;") (by decide +kernel)
  have f28 := hts (.fieldLink RX2 28 "DockyardSlots$Lane" "count" "I") (by decide +kernel)
  have LX2 : ∀ w ∈ wsX20, w.before [.ref (am 5 i), .int (iZ x)].toArray s = true := fun w h => hts w (List.mem_cons_of_mem _ (List.mem_append_right _ h))
  refine lv_iload_n hx hb dX2_fromExit_0 rfl (lv_at hl 1 rfl) ?_
  refine z_if_lt (tgt := 24) hx hb dX2_fromExit_1 (by decide) (by omega) (fun c1 => ?_) (fun c1 => ?_)
  · skip
    refine lv_null hx hb dX2_fromExit_24 ?_
    exact (ze_q (u' := (n, am, S)) (z := -1) hx hb hr (Or.inl ⟨_, rfl⟩) hI (ts_rf_n (by decide)).symm (by decide) (by omega) ⟨by rw [yExit_f (by omega)], rfl⟩ (Nat.le_of_ble_eq_true rfl) (Nat.le_of_ble_eq_true rfl) dX2_fromExit_25 hlocks)
  · skip
    refine lv_iload_n hx hb dX2_fromExit_4 rfl (lv_at hl 1 rfl) ?_
    refine lv_aload_n hx hb dX2_fromExit_5 rfl (lv_at hl 0 rfl) ?_
    refine zg_i (κ := 5) (i := i) (k := 4) hx hb LX2 hown hK hI hi rfl rfl (by decide) rfl f28 (fun _ h9 => h9) dX2_fromExit_6 rfl (fun b2 => ?_)
    refine z_icmp_ge (tgt := 24) hx hb dX2_fromExit_9 (by decide) (by omega) (by omega) (fun c3 => ?_) (fun c3 => ?_)
    · skip
      refine lv_null hx hb dX2_fromExit_24 ?_
      exact (ze_q (u' := (n, am, S)) (z := -1) hx hb hr (Or.inl ⟨_, rfl⟩) hI (ts_rf_n (by decide)).symm (by decide) (by omega) ⟨by rw [yExit_f (by omega)], rfl⟩ (Nat.le_of_ble_eq_true rfl) (Nat.le_of_ble_eq_true rfl) dX2_fromExit_25 hlocks)
    · skip
      refine lv_aload_n hx hb dX2_fromExit_12 rfl (lv_at hl 0 rfl) ?_
      refine zg_i (κ := 5) (i := i) (k := 4) hx hb LX2 hown hK hI hi rfl rfl (by decide) rfl f28 (fun _ h9 => h9) dX2_fromExit_13 rfl (fun b4 => ?_)
      refine lv_aload_n hx hb dX2_fromExit_16 rfl (lv_at hl 0 rfl) ?_
      refine zg_r (κ := 5) (i := i) (k := 3) (t := 6) (j := i) hx hb LX2 hown hK hI hi rfl rfl (by decide) rfl f24 (fun _ h9 => h9) dX2_fromExit_17 ((hW.2.2.1 _ hi).2) (fun v5 => ?_)
      refine zal hx hb hK hI v5 rfl dX2_fromExit_20 ?_
      refine z_icmp_le (tgt := 26) hx hb dX2_fromExit_21 (by decide) (by omega) (by omega) (fun c6 => ?_) (fun c6 => ?_)
      · skip
        refine lv_aload_n hx hb dX2_fromExit_26 rfl (lv_at hl 0 rfl) ?_
        refine zg_r (κ := 5) (i := i) (k := 3) (t := 6) (j := i) hx hb LX2 hown hK hI hi rfl rfl (by decide) rfl f24 (fun _ h9 => h9) dX2_fromExit_27 ((hW.2.2.1 _ hi).2) (fun v7 => ?_)
        refine lv_aload_n hx hb dX2_fromExit_30 rfl (lv_at hl 0 rfl) ?_
        refine zg_i (κ := 5) (i := i) (k := 4) hx hb LX2 hown hK hI hi rfl rfl (by decide) rfl f28 (fun _ h9 => h9) dX2_fromExit_31 rfl (fun b8 => ?_)
        refine z_iconst hx hb dX2_fromExit_34 ?_
        refine z_isub hx hb dX2_fromExit_35 ?_
        refine lv_iload_n hx hb dX2_fromExit_36 rfl (lv_at hl 1 rfl) ?_
        refine z_isub hx hb dX2_fromExit_37 ?_
        refine za_q (κ := 6) (i := i) hx hb hK hI v7 rfl (by omega) (by omega) (by omega) dX2_fromExit_38 (fun q9 => ?_) (fun j12 q10 v11 => ?_)
        · skip
          exact (ze_q (u' := (n, am, S)) (z := -1) hx hb hr (Or.inl ⟨_, rfl⟩) hI (ts_rf_n (by decide)).symm (by decide) (by omega) ⟨by rw [yExit_t (by omega)]; exact q9.symm, rfl⟩ (Nat.le_of_ble_eq_true rfl) (Nat.le_of_ble_eq_true rfl) dX2_fromExit_39 hlocks)
        · skip
          exact (ze_q (u' := (n, am, S)) (z := (j12 : Int)) hx hb hr (Or.inl ⟨_, rfl⟩) hI (ts_V_ref _ _ _).symm (by omega) (Int.ofNat_lt.mpr v11) ⟨by rw [yExit_t (by omega)]; exact q10.symm, rfl⟩ (Nat.le_of_ble_eq_true rfl) (Nat.le_of_ble_eq_true rfl) dX2_fromExit_39 hlocks)
      · skip
        refine lv_null hx hb dX2_fromExit_24 ?_
        exact (ze_q (u' := (n, am, S)) (z := -1) hx hb hr (Or.inl ⟨_, rfl⟩) hI (ts_rf_n (by decide)).symm (by decide) (by omega) ⟨by rw [yExit_f (by omega)], rfl⟩ (Nat.le_of_ble_eq_true rfl) (Nat.le_of_ble_eq_true rfl) dX2_fromExit_25 hlocks)
set_option maxHeartbeats 4000000 in
set_option maxRecDepth 100000 in
theorem c_X4_isOutside (l : Launch) (D : va_G) (cA : Nat → ClassId) (n : Nat → Nat) (am : ts_Am) (S : ts_St) (sz : Nat) (a b d : Int) (ha : iR a) (hb1 : iR b) (hd : iR d) : Met l yX4_isOutside wsX4_isOutside ({ frames := 0, cells := 0, slots := 0, locals := 0 } : Room) (va_Pc [.int (iZ a), .int (iZ b), .int (iZ d)] (zP TX D cA (n, am, S) sz)) (zQi TX D cA (n, am, S) sz (fun z u => z = zB (yOut a b d) ∧ u = (n, am, S))) 0 0 (ts_A (n, am, S) sz) := by
  refine zM_of (by decide) rfl (Nat.le_of_ble_eq_true rfl) ?_
  intro p e s m below meth c hx hb hr hts hown hlocks hml hname hK hsz H locs hI ls hl
  subst hsz
  have hown : s.vm.findClass RX4 = some m.cls := hown
  have hl : lv_has ls 3 [(0, .int (iZ a)), (1, .int (iZ b)), (2, .int (iZ d))] := hl
  refine lv_iload_n hx hb dX4_isOutside_0 rfl (lv_at hl 0 rfl) ?_
  refine lv_iload_n hx hb dX4_isOutside_1 rfl (lv_at hl 1 rfl) ?_
  refine z_icmp_lt (tgt := 10) hx hb dX4_isOutside_2 (by decide) (by omega) (by omega) (fun c1 => ?_) (fun c1 => ?_)
  · skip
    refine z_iconst hx hb dX4_isOutside_10 ?_
    refine lv_goto (tgt := 15) hx hb dX4_isOutside_11 (by decide) ?_
    exact (ze_i (u' := (n, am, S)) (z := 1) hx hb hr (iZ_narz (by omega) (by omega)).1 hI (by omega) ⟨(zB_t (by unfold yOut; omega)).symm, rfl⟩ (Nat.le_of_ble_eq_true rfl) (Nat.le_of_ble_eq_true rfl) dX4_isOutside_15 hlocks)
  · skip
    refine lv_iload_n hx hb dX4_isOutside_5 rfl (lv_at hl 0 rfl) ?_
    refine lv_iload_n hx hb dX4_isOutside_6 rfl (lv_at hl 2 rfl) ?_
    refine z_icmp_le (tgt := 14) hx hb dX4_isOutside_7 (by decide) (by omega) (by omega) (fun c2 => ?_) (fun c2 => ?_)
    · skip
      refine z_iconst hx hb dX4_isOutside_14 ?_
      exact (ze_i (u' := (n, am, S)) (z := 0) hx hb hr (iZ_narz (by omega) (by omega)).1 hI (by omega) ⟨(zB_f (by unfold yOut; omega)).symm, rfl⟩ (Nat.le_of_ble_eq_true rfl) (Nat.le_of_ble_eq_true rfl) dX4_isOutside_15 hlocks)
    · skip
      refine z_iconst hx hb dX4_isOutside_10 ?_
      refine lv_goto (tgt := 15) hx hb dX4_isOutside_11 (by decide) ?_
      exact (ze_i (u' := (n, am, S)) (z := 1) hx hb hr (iZ_narz (by omega) (by omega)).1 hI (by omega) ⟨(zB_t (by unfold yOut; omega)).symm, rfl⟩ (Nat.le_of_ble_eq_true rfl) (Nat.le_of_ble_eq_true rfl) dX4_isOutside_15 hlocks)
set_option maxHeartbeats 4000000 in
set_option maxRecDepth 100000 in
theorem c_X2_takeOut (l : Launch) (D : va_G) (cA : Nat → ClassId) (n : Nat → Nat) (am : ts_Am) (S : ts_St) (sz : Nat) (i : Nat) (hW : cW n S) (hi : i < n 5) : Met l yX2_takeOut wsX2_takeOut ({ frames := 1, cells := 0, slots := 0, locals := 21 } : Room) (va_Pc [.ref (am 5 i)] (zP TX D cA (n, am, S) sz)) (zQq TX D cA (n, am, S) sz 8 (fun z u => z = yExit S i 0 ∧ u = (n, am, yTakeOut S i))) 0 0 (ts_A (n, am, S) sz) := by
  refine zM_of (by decide) rfl (Nat.le_of_ble_eq_true rfl) ?_
  intro p e s m below meth c hx hb hr hts hown hlocks hml hname hK hsz H locs hI ls hl
  subst hsz
  have hown : s.vm.findClass RX2 = some m.cls := hown
  have hl : lv_has ls 2 [(0, .ref (am 5 i))] := hl
  have f28 := hts (.fieldLink RX2 28 "DockyardSlots$Lane" "count" "I") (by decide +kernel)
  have f35 := hts (.fieldLink RX2 35 "DockyardSlots$Appointment" "lane" "LDockyardSlots$Lane;") (by decide +kernel)
  have LX0 : ∀ w ∈ wsX00, w.before [.ref (am 5 i)].toArray s = true := fun w h => hts w (List.mem_cons_of_mem _ (List.mem_append_right _ h))
  have LX2 : ∀ w ∈ wsX20, w.before [.ref (am 5 i)].toArray s = true := fun w h => hts w (List.mem_cons_of_mem _ (List.mem_append_left _ (List.mem_append_right _ h)))
  refine lv_aload_n hx hb dX2_takeOut_0 rfl (lv_at hl 0 rfl) ?_
  refine z_iconst hx hb dX2_takeOut_1 ?_
  refine zc_q (zrV (As := [.int (iZ 0)]) (rest := []) (κ := 5) (i := i) ⟨hx, hb, hml, hown, hts⟩ (c_X2_fromExit l D cA n am S H.size i 0 hW hi (by omega)) (cwV 1 hts gX2_takeOut_X2_fromExit rfl rfl rfl (by decide +kernel) ⟨Nat.le_of_ble_eq_true rfl, Nat.le_of_ble_eq_true rfl⟩) hK hI hi rfl rfl rfl hl.1 rfl (Nat.le_of_ble_eq_true rfl) dX2_takeOut_2 ⟨Nat.le_of_ble_eq_true rfl, Nat.le_of_ble_eq_true rfl⟩) hI (fun u9 H locs hp3 hI hfr => ?_) (fun j4 u9 H locs v5 hp3 hI hfr => ?_)
  · clear hfr
    obtain ⟨ez1, rfl⟩ := hp3
    refine lv_astore_nN (lv' := [(1, .null), (0, .ref (am 5 i))]) hx hb dX2_takeOut_5 rfl hl (by decide) rfl (fun ls hl => ?_)
    refine lv_aload_nN hx hb dX2_takeOut_6 rfl (lv_at hl 0 rfl) ?_
    refine lv_ifnullN (tgt := 25) hx hb dX2_takeOut_7 (by decide) ?_
    refine lv_aload_nN hx hb dX2_takeOut_25 rfl (lv_at hl 0 rfl) ?_
    exact (ze_q (u' := (n, am, S)) (z := -1) hx hb hr (Or.inl ⟨_, rfl⟩) hI (ts_rf_n (by decide)).symm (by decide) (by omega) ⟨by omega, by rw [yTakeOut_f (by omega)]⟩ (Nat.le_of_ble_eq_true rfl) (Nat.le_of_ble_eq_true rfl) dX2_takeOut_26 hlocks)
  · clear hfr
    obtain ⟨ej4, rfl⟩ := hp3
    have v5 : j4 < n 8 := v5
    refine lv_astore_n (lv' := [(1, .ref (am 8 j4)), (0, .ref (am 5 i))]) hx hb dX2_takeOut_5 rfl hl (by decide) rfl (fun ls hl => ?_)
    refine lv_aload_n hx hb dX2_takeOut_6 rfl (lv_at hl 0 rfl) ?_
    refine lv_ifnull hx hb dX2_takeOut_7 ?_
    have hin := yExit_in (S := S) (i := i) (x := 0) (by omega)
    refine lv_aload_n hx hb dX2_takeOut_10 rfl (lv_at hl 1 rfl) ?_
    refine lv_dup hx hb dX2_takeOut_11 rfl ?_
    refine zg_i (κ := 5) (i := i) (k := 4) hx hb LX2 hown hK hI hi rfl rfl (by decide) rfl f28 (fun _ h9 => h9) dX2_takeOut_12 rfl (fun b6 => ?_)
    refine z_iconst hx hb dX2_takeOut_15 ?_
    refine z_isub hx hb dX2_takeOut_16 ?_
    refine zp_i (κ := 5) (i := i) (k := 4) hx hb LX2 tyX2 tyX2_ok nmX2 hown hK hI hi rfl rfl (by decide) rfl f28 (fun _ h9 => h9) rfl rfl rfl (by omega) dX2_takeOut_17 (fun H locs hI => ?_)
    obtain ⟨S7, eS7⟩ : ∃ z, z = up3 S 5 i 4 (S 5 i 4 - 1) := ⟨_, rfl⟩
    rw [← eS7] at hI
    have hW : cW n S7 := by rw [eS7]; exact hW.put rfl
    refine lv_aload_n hx hb dX2_takeOut_20 rfl (lv_at hl 0 rfl) ?_
    refine lv_null hx hb dX2_takeOut_21 ?_
    refine zp_n (κ := 8) (i := j4) (k := 7) (t := 5) hx hb LX0 tyX0 tyX0_ok nmX0 hown hK hI v5 rfl rfl (by decide) rfl f35 (fun _ h9 => h9) rfl rfl rfl dX2_takeOut_22 (fun H locs hI => ?_)
    obtain ⟨S8, eS8⟩ : ∃ z, z = up3 S7 8 j4 7 (-1) := ⟨_, rfl⟩
    rw [← eS8] at hI
    have hW : cW n S8 := by rw [eS8]; exact hW.put rfl
    refine lv_aload_n hx hb dX2_takeOut_25 rfl (lv_at hl 0 rfl) ?_
    exact (ze_q (u' := (n, am, S8)) (z := (j4 : Int)) hx hb hr (Or.inl ⟨_, rfl⟩) hI (ts_V_ref _ _ _).symm (by omega) (Int.ofNat_lt.mpr v5) ⟨ej4, by rw [eS8, eS7, yTakeOut_t (by omega), ← ej4, Int.toNat_natCast]⟩ (Nat.le_of_ble_eq_true rfl) (Nat.le_of_ble_eq_true rfl) dX2_takeOut_26 hlocks)
set_option maxHeartbeats 4000000 in
set_option maxRecDepth 100000 in
theorem c_X2_bringIn (l : Launch) (D : va_G) (cA : Nat → ClassId) (n : Nat → Nat) (am : ts_Am) (S : ts_St) (sz : Nat) (i j : Nat) (hW : cW n S) (hi : i < n 5) (hj : j < n 8) : Met l yX2_bringIn wsX2_bringIn ({ frames := 0, cells := 0, slots := 0, locals := 0 } : Room) (va_Pc [.ref (am 5 i), .ref (am 8 j)] (zP TX D cA (n, am, S) sz)) (zQv TX D cA (n, am, S) sz (fun u => u = (n, am, yBring S i j))) 0 0 (ts_A (n, am, S) sz) := by
  refine zM_of (by decide) rfl (Nat.le_of_ble_eq_true rfl) ?_
  intro p e s m below meth c hx hb hr hts hown hlocks hml hname hK hsz H locs hI ls hl
  subst hsz
  have hown : s.vm.findClass RX2 = some m.cls := hown
  have hl : lv_has ls 2 [(0, .ref (am 5 i)), (1, .ref (am 8 j))] := hl
  have f24 := hts (.fieldLink RX2 24 "DockyardSlots$Lane" "trailers" "[LDockyardSlots$Appointment;") (by decide +kernel)
  have f28 := hts (.fieldLink RX2 28 "DockyardSlots$Lane" "count" "I") (by decide +kernel)
  have f35 := hts (.fieldLink RX2 35 "DockyardSlots$Appointment" "lane" "LDockyardSlots$Lane;") (by decide +kernel)
  have f39 := hts (.fieldLink RX2 39 "DockyardSlots$Appointment" "place" "I") (by decide +kernel)
  have LX0 : ∀ w ∈ wsX00, w.before [.ref (am 5 i), .ref (am 8 j)].toArray s = true := fun w h => hts w (List.mem_cons_of_mem _ (List.mem_append_right _ h))
  have LX2 : ∀ w ∈ wsX20, w.before [.ref (am 5 i), .ref (am 8 j)].toArray s = true := fun w h => hts w (List.mem_cons_of_mem _ (List.mem_append_left _ (List.mem_append_right _ h)))
  refine lv_aload_n hx hb dX2_bringIn_0 rfl (lv_at hl 0 rfl) ?_
  refine zg_i (κ := 5) (i := i) (k := 4) hx hb LX2 hown hK hI hi rfl rfl (by decide) rfl f28 (fun _ h9 => h9) dX2_bringIn_1 rfl (fun b1 => ?_)
  refine z_if_lt (tgt := 52) hx hb dX2_bringIn_4 (by decide) (by omega) (fun c2 => ?_) (fun c2 => ?_)
  · skip
    exact (ze_v (u' := (n, am, S)) hx hb hr hI (by rw [yBring_f (by omega)]) (Nat.le_of_ble_eq_true rfl) (Nat.le_of_ble_eq_true rfl) dX2_bringIn_52 hlocks)
  · skip
    refine lv_aload_n hx hb dX2_bringIn_7 rfl (lv_at hl 0 rfl) ?_
    refine zg_i (κ := 5) (i := i) (k := 4) hx hb LX2 hown hK hI hi rfl rfl (by decide) rfl f28 (fun _ h9 => h9) dX2_bringIn_8 rfl (fun b3 => ?_)
    refine lv_aload_n hx hb dX2_bringIn_11 rfl (lv_at hl 0 rfl) ?_
    refine zg_r (κ := 5) (i := i) (k := 3) (t := 6) (j := i) hx hb LX2 hown hK hI hi rfl rfl (by decide) rfl f24 (fun _ h9 => h9) dX2_bringIn_12 ((hW.2.2.1 _ hi).2) (fun v4 => ?_)
    refine zal hx hb hK hI v4 rfl dX2_bringIn_15 ?_
    refine z_icmp_ge (tgt := 52) hx hb dX2_bringIn_16 (by decide) (by omega) (by omega) (fun c5 => ?_) (fun c5 => ?_)
    · skip
      exact (ze_v (u' := (n, am, S)) hx hb hr hI (by rw [yBring_f (by omega)]) (Nat.le_of_ble_eq_true rfl) (Nat.le_of_ble_eq_true rfl) dX2_bringIn_52 hlocks)
    · skip
      refine lv_aload_n hx hb dX2_bringIn_19 rfl (lv_at hl 0 rfl) ?_
      refine zg_r (κ := 5) (i := i) (k := 3) (t := 6) (j := i) hx hb LX2 hown hK hI hi rfl rfl (by decide) rfl f24 (fun _ h9 => h9) dX2_bringIn_20 ((hW.2.2.1 _ hi).2) (fun v6 => ?_)
      refine lv_aload_n hx hb dX2_bringIn_23 rfl (lv_at hl 0 rfl) ?_
      refine zg_i (κ := 5) (i := i) (k := 4) hx hb LX2 hown hK hI hi rfl rfl (by decide) rfl f28 (fun _ h9 => h9) dX2_bringIn_24 rfl (fun b7 => ?_)
      refine lv_aload_n hx hb dX2_bringIn_27 rfl (lv_at hl 1 rfl) ?_
      refine zs_r (κ := 6) (i := i) (t := 8) (k := j) (r := (RX0, TX0, 10)) hx hb hK hI v6 rfl hj rfl rfl (by omega) (by omega) (by omega) (by have := hj; have := hW.2.2.2.1 8; omega) dX2_bringIn_28 (fun H locs hI => ?_)
      obtain ⟨S8, eS8⟩ : ∃ z, z = up3 S 6 i ((S 5 i 4).toNat) (j : Int) := ⟨_, rfl⟩
      rw [← eS8] at hI
      have hW : cW n S8 := by rw [eS8]; exact hW.put rfl
      refine lv_aload_n hx hb dX2_bringIn_29 rfl (lv_at hl 1 rfl) ?_
      refine lv_aload_n hx hb dX2_bringIn_30 rfl (lv_at hl 0 rfl) ?_
      refine zp_r (κ := 8) (i := j) (k := 7) (t := 5) (j := i) hx hb LX0 tyX0 tyX0_ok nmX0 hown hK hI hj rfl rfl (by decide) rfl f35 (fun _ h9 => h9) rfl rfl rfl hi (by have := hi; have := hW.2.2.2.1 5; omega) dX2_bringIn_31 (fun H locs hI => ?_)
      obtain ⟨S9, eS9⟩ : ∃ z, z = up3 S8 8 j 7 (i : Int) := ⟨_, rfl⟩
      rw [← eS9] at hI
      have hW : cW n S9 := by rw [eS9]; exact hW.put rfl
      refine lv_aload_n hx hb dX2_bringIn_34 rfl (lv_at hl 1 rfl) ?_
      refine lv_aload_n hx hb dX2_bringIn_35 rfl (lv_at hl 0 rfl) ?_
      refine zg_i (κ := 5) (i := i) (k := 4) hx hb LX2 hown hK hI hi rfl rfl (by decide) rfl f28 (fun _ h9 => h9) dX2_bringIn_36 (by rw [eS9, up3_n (by omega), eS8, up3_n (by omega)]) (fun b10 => ?_)
      refine zp_i (κ := 8) (i := j) (k := 8) hx hb LX0 tyX0 tyX0_ok nmX0 hown hK hI hj rfl rfl (by decide) rfl f39 (fun _ h9 => h9) rfl rfl rfl (by omega) dX2_bringIn_39 (fun H locs hI => ?_)
      obtain ⟨S11, eS11⟩ : ∃ z, z = up3 S9 8 j 8 (S 5 i 4) := ⟨_, rfl⟩
      rw [← eS11] at hI
      have hW : cW n S11 := by rw [eS11]; exact hW.put rfl
      refine lv_aload_n hx hb dX2_bringIn_42 rfl (lv_at hl 0 rfl) ?_
      refine lv_dup hx hb dX2_bringIn_43 rfl ?_
      refine zg_i (κ := 5) (i := i) (k := 4) hx hb LX2 hown hK hI hi rfl rfl (by decide) rfl f28 (fun _ h9 => h9) dX2_bringIn_44 (by rw [eS11, up3_n (by omega), eS9, up3_n (by omega), eS8, up3_n (by omega)]) (fun b12 => ?_)
      refine z_iconst hx hb dX2_bringIn_47 ?_
      refine z_iadd hx hb dX2_bringIn_48 ?_
      refine zp_i (κ := 5) (i := i) (k := 4) hx hb LX2 tyX2 tyX2_ok nmX2 hown hK hI hi rfl rfl (by decide) rfl f28 (fun _ h9 => h9) rfl rfl rfl (by omega) dX2_bringIn_49 (fun H locs hI => ?_)
      obtain ⟨S13, eS13⟩ : ∃ z, z = up3 S11 5 i 4 (S 5 i 4 + 1) := ⟨_, rfl⟩
      rw [← eS13] at hI
      have hW : cW n S13 := by rw [eS13]; exact hW.put rfl
      exact (ze_v (u' := (n, am, S13)) hx hb hr hI (by rw [eS13, eS11, eS9, eS8, yBring_t (by omega)]; rfl) (Nat.le_of_ble_eq_true rfl) (Nat.le_of_ble_eq_true rfl) dX2_bringIn_52 hlocks)
set_option maxHeartbeats 4000000 in
set_option maxRecDepth 100000 in
theorem c_X3_laneAt (l : Launch) (D : va_G) (cA : Nat → ClassId) (n : Nat → Nat) (am : ts_Am) (S : ts_St) (sz : Nat) (x : Int) (hW : cW n S) (hx0 : iR x) : Met l yX3_laneAt wsX3_laneAt ({ frames := 0, cells := 0, slots := 0, locals := 0 } : Room) (va_Pc [.ref (am 1 0), .int (iZ x)] (zP TX D cA (n, am, S) sz)) (zQq TX D cA (n, am, S) sz 5 (fun z u => z = yLane S x ∧ u = (n, am, S))) 0 0 (ts_A (n, am, S) sz) := by
  refine zM_of (by decide) rfl (Nat.le_of_ble_eq_true rfl) ?_
  intro p e s m below meth c hx hb hr hts hown hlocks hml hname hK hsz H locs hI ls hl
  subst hsz
  have hown : s.vm.findClass RX3 = some m.cls := hown
  have hl : lv_has ls 2 [(0, .ref (am 1 0)), (1, .int (iZ x))] := hl
  have f11 := hts (.fieldLink RX3 11 "DockyardSlots$LaneRow" "lanes" "[LDockyardSlots$Lane;") (by decide +kernel)
  have f17 := hts (.fieldLink RX3 17 "DockyardSlots$LaneRow" "count" "I") (by decide +kernel)
  have LX3 : ∀ w ∈ wsX30, w.before [.ref (am 1 0), .int (iZ x)].toArray s = true := fun w h => hts w (List.mem_cons_of_mem _ (List.mem_append_right _ h))
  refine lv_iload_n hx hb dX3_laneAt_0 rfl (lv_at hl 1 rfl) ?_
  refine z_if_lt (tgt := 21) hx hb dX3_laneAt_1 (by decide) (by omega) (fun c1 => ?_) (fun c1 => ?_)
  · skip
    refine lv_null hx hb dX3_laneAt_21 ?_
    exact (ze_q (u' := (n, am, S)) (z := -1) hx hb hr (Or.inl ⟨_, rfl⟩) hI (ts_rf_n (by decide)).symm (by decide) (by omega) ⟨by rw [yLane_f (by omega)], rfl⟩ (Nat.le_of_ble_eq_true rfl) (Nat.le_of_ble_eq_true rfl) dX3_laneAt_22 hlocks)
  · skip
    refine lv_iload_n hx hb dX3_laneAt_4 rfl (lv_at hl 1 rfl) ?_
    refine lv_aload_n hx hb dX3_laneAt_5 rfl (lv_at hl 0 rfl) ?_
    refine zg_i (κ := 1) (i := 0) (k := 1) hx hb LX3 hown hK hI hW.1.2.1 rfl rfl (by decide) rfl f17 (fun _ h9 => h9) dX3_laneAt_6 rfl (fun b2 => ?_)
    refine z_icmp_ge (tgt := 21) hx hb dX3_laneAt_9 (by decide) (by omega) (by omega) (fun c3 => ?_) (fun c3 => ?_)
    · skip
      refine lv_null hx hb dX3_laneAt_21 ?_
      exact (ze_q (u' := (n, am, S)) (z := -1) hx hb hr (Or.inl ⟨_, rfl⟩) hI (ts_rf_n (by decide)).symm (by decide) (by omega) ⟨by rw [yLane_f (by omega)], rfl⟩ (Nat.le_of_ble_eq_true rfl) (Nat.le_of_ble_eq_true rfl) dX3_laneAt_22 hlocks)
    · skip
      refine lv_iload_n hx hb dX3_laneAt_12 rfl (lv_at hl 1 rfl) ?_
      refine lv_aload_n hx hb dX3_laneAt_13 rfl (lv_at hl 0 rfl) ?_
      refine zg_r (κ := 1) (i := 0) (k := 0) (t := 2) (j := 0) hx hb LX3 hown hK hI hW.1.2.1 rfl rfl (by decide) rfl f11 (fun _ h9 => h9) dX3_laneAt_14 hW.2.1.2.2.2 (fun v4 => ?_)
      refine zal hx hb hK hI v4 rfl dX3_laneAt_17 ?_
      refine z_icmp_lt (tgt := 23) hx hb dX3_laneAt_18 (by decide) (by omega) (by omega) (fun c5 => ?_) (fun c5 => ?_)
      · skip
        refine lv_aload_n hx hb dX3_laneAt_23 rfl (lv_at hl 0 rfl) ?_
        refine zg_r (κ := 1) (i := 0) (k := 0) (t := 2) (j := 0) hx hb LX3 hown hK hI hW.1.2.1 rfl rfl (by decide) rfl f11 (fun _ h9 => h9) dX3_laneAt_24 hW.2.1.2.2.2 (fun v6 => ?_)
        refine lv_iload_n hx hb dX3_laneAt_27 rfl (lv_at hl 1 rfl) ?_
        refine za_q (κ := 2) (i := 0) hx hb hK hI v6 rfl (by omega) (by omega) (by omega) dX3_laneAt_28 (fun q7 => ?_) (fun j10 q8 v9 => ?_)
        · skip
          exact (ze_q (u' := (n, am, S)) (z := -1) hx hb hr (Or.inl ⟨_, rfl⟩) hI (ts_rf_n (by decide)).symm (by decide) (by omega) ⟨by rw [yLane_t (by omega)]; exact q7.symm, rfl⟩ (Nat.le_of_ble_eq_true rfl) (Nat.le_of_ble_eq_true rfl) dX3_laneAt_29 hlocks)
        · skip
          exact (ze_q (u' := (n, am, S)) (z := (j10 : Int)) hx hb hr (Or.inl ⟨_, rfl⟩) hI (ts_V_ref _ _ _).symm (by omega) (Int.ofNat_lt.mpr v9) ⟨by rw [yLane_t (by omega)]; exact q8.symm, rfl⟩ (Nat.le_of_ble_eq_true rfl) (Nat.le_of_ble_eq_true rfl) dX3_laneAt_29 hlocks)
      · skip
        refine lv_null hx hb dX3_laneAt_21 ?_
        exact (ze_q (u' := (n, am, S)) (z := -1) hx hb hr (Or.inl ⟨_, rfl⟩) hI (ts_rf_n (by decide)).symm (by decide) (by omega) ⟨by rw [yLane_f (by omega)], rfl⟩ (Nat.le_of_ble_eq_true rfl) (Nat.le_of_ble_eq_true rfl) dX3_laneAt_22 hlocks)
set_option maxHeartbeats 4000000 in
set_option maxRecDepth 100000 in
theorem c_X3_trailerCount (l : Launch) (D : va_G) (cA : Nat → ClassId) (n : Nat → Nat) (am : ts_Am) (S : ts_St) (sz : Nat)  (hW : cW n S) (hc : cOk n S) : Met l yX3_trailerCount wsX3_trailerCount ({ frames := 1, cells := 0, slots := 0, locals := 21 } : Room) (va_Pc [.ref (am 1 0)] (zP TX D cA (n, am, S) sz)) (zQi TX D cA (n, am, S) sz (fun z u => z = ySum S (S 1 0 1).toNat ∧ u = (n, am, S))) 0 0 (ts_A (n, am, S) sz) := by
  refine zM_of (by decide) rfl (Nat.le_of_ble_eq_true rfl) ?_
  intro p e s m below meth c hx hb hr hts hown hlocks hml hname hK hsz H locs hI ls hl
  subst hsz
  have hown : s.vm.findClass RX3 = some m.cls := hown
  have hl : lv_has ls 4 [(0, .ref (am 1 0))] := hl
  have f17 := hts (.fieldLink RX3 17 "DockyardSlots$LaneRow" "count" "I") (by decide +kernel)
  have f28 := hts (.fieldLink RX3 28 "DockyardSlots$Lane" "count" "I") (by decide +kernel)
  have LX2 : ∀ w ∈ wsX20, w.before [.ref (am 1 0)].toArray s = true := fun w h => hts w (List.mem_cons_of_mem _ (List.mem_append_right _ h))
  have LX3 : ∀ w ∈ wsX30, w.before [.ref (am 1 0)].toArray s = true := fun w h => hts w (List.mem_cons_of_mem _ (List.mem_append_left _ (List.mem_append_right _ h)))
  have hc1 := hc.1
  refine z_iconst hx hb dX3_trailerCount_0 ?_
  refine lv_istore_n (lv' := [(1, .int (iZ 0)), (0, .ref (am 1 0))]) hx hb dX3_trailerCount_1 rfl hl (by decide) rfl (fun ls hl => ?_)
  refine z_iconst hx hb dX3_trailerCount_2 ?_
  refine lv_istore_n (lv' := [(2, .int (iZ 0)), (1, .int (iZ 0)), (0, .ref (am 1 0))]) hx hb dX3_trailerCount_3 rfl hl (by decide) rfl (fun ls hl => ?_)
  obtain ⟨x, e_x⟩ : ∃ z : Int, z = 0 := ⟨_, rfl⟩
  obtain ⟨y, e_y⟩ : ∃ z : Int, z = 0 := ⟨_, rfl⟩
  replace hl : lv_has ls 4 [(2, .int (iZ y)), (1, .int (iZ x)), (0, .ref (am 1 0))] := by rw [e_x, e_y]; exact hl
  have h1 : 0 ≤ y ∧ y ≤ S 1 0 1 := by omega
  have h2 : x = ySum S y.toNat := by rw [e_x, e_y]; rfl
  have h3 : 0 ≤ x ∧ x ≤ 3 * y := by omega
  obtain ⟨k4, hk4⟩ : ∃ k : Nat, S 1 0 1 - y < (k : Int) := ⟨(S 1 0 1 - y).toNat + 1, by omega⟩
  clear e_x e_y
  induction k4 generalizing x y H locs ls with
  | zero => omega
  | succ k4 ih4 =>
    refine lv_iload_n hx hb dX3_trailerCount_4 rfl (lv_at hl 0 rfl) ?_
    refine lv_aload_n hx hb dX3_trailerCount_5 rfl (lv_at hl 2 rfl) ?_
    refine zg_i (κ := 1) (i := 0) (k := 1) hx hb LX3 hown hK hI hW.1.2.1 rfl rfl (by decide) rfl f17 (fun _ h9 => h9) dX3_trailerCount_6 rfl (fun b1 => ?_)
    refine z_icmp_ge (tgt := 35) hx hb dX3_trailerCount_9 (by decide) (by omega) (by omega) (fun c2 => ?_) (fun c2 => ?_)
    · skip
      refine lv_iload_n hx hb dX3_trailerCount_35 rfl (lv_at hl 1 rfl) ?_
      exact (ze_i (u' := (n, am, S)) (z := x) hx hb hr rfl hI (by omega) ⟨by rw [h2, show y = S 1 0 1 by omega], rfl⟩ (Nat.le_of_ble_eq_true rfl) (Nat.le_of_ble_eq_true rfl) dX3_trailerCount_36 hlocks)
    · skip
      refine lv_aload_n hx hb dX3_trailerCount_12 rfl (lv_at hl 2 rfl) ?_
      refine lv_iload_n hx hb dX3_trailerCount_13 rfl (lv_at hl 0 rfl) ?_
      refine zc_q (zrV (As := [.int (iZ y)]) (rest := []) (κ := 1) (i := 0) ⟨hx, hb, hml, hown, hts⟩ (c_X3_laneAt l D cA n am S H.size y hW (by omega)) (cwV 1 hts gX3_trailerCount_X3_laneAt rfl rfl rfl (by decide +kernel) ⟨Nat.le_of_ble_eq_true rfl, Nat.le_of_ble_eq_true rfl⟩) hK hI hW.1.2.1 rfl rfl rfl hl.1 rfl (Nat.le_of_ble_eq_true rfl) dX3_trailerCount_14 ⟨Nat.le_of_ble_eq_true rfl, Nat.le_of_ble_eq_true rfl⟩) hI (fun u9 H locs hp5 hI hfr => ?_) (fun j6 u9 H locs v7 hp5 hI hfr => ?_)
      · clear hfr
        obtain ⟨ez3, rfl⟩ := hp5
        refine lv_astore_nN (lv' := [(3, .null), (2, .int (iZ y)), (1, .int (iZ x)), (0, .ref (am 1 0))]) hx hb dX3_trailerCount_17 rfl hl (by decide) rfl (fun ls hl => ?_)
        refine lv_aload_nN hx hb dX3_trailerCount_18 rfl (lv_at hl 0 rfl) ?_
        refine lv_ifnullN (tgt := 29) hx hb dX3_trailerCount_19 (by decide) ?_
        refine z_iinc (k := 1) (lv' := [(2, .int (iZ (y + 1))), (3, .null), (1, .int (iZ x)), (0, .ref (am 1 0))]) hx hb dX3_trailerCount_29 hl rfl (by decide) rfl (fun ls hl => ?_)
        refine lv_goto (tgt := 4) hx hb dX3_trailerCount_32 (by decide) ?_
        exact ih4 (x := x) (y := (y + 1)) (h1 := by omega) (h2 := by rw [ySum_s (by omega), if_neg (by omega)]; omega) (h3 := by omega) (hk4 := by omega) (hI := hI) (hl := lv_sub hl [0, 2, 3] rfl)
      · clear hfr
        obtain ⟨ej6, rfl⟩ := hp5
        have v7 : j6 < n 5 := v7
        refine lv_astore_n (lv' := [(3, .ref (am 5 j6)), (2, .int (iZ y)), (1, .int (iZ x)), (0, .ref (am 1 0))]) hx hb dX3_trailerCount_17 rfl hl (by decide) rfl (fun ls hl => ?_)
        refine lv_aload_n hx hb dX3_trailerCount_18 rfl (lv_at hl 0 rfl) ?_
        refine lv_ifnull hx hb dX3_trailerCount_19 ?_
        refine lv_iload_n hx hb dX3_trailerCount_22 rfl (lv_at hl 2 rfl) ?_
        refine lv_aload_n hx hb dX3_trailerCount_23 rfl (lv_at hl 0 rfl) ?_
        refine zg_i (κ := 5) (i := j6) (k := 4) hx hb LX2 hown hK hI v7 rfl rfl (by decide) rfl f28 (fun _ h9 => h9) dX3_trailerCount_24 rfl (fun b8 => ?_)
        refine z_iadd hx hb dX3_trailerCount_27 ?_
        refine lv_istore_n (lv' := [(1, .int (iZ (x + S 5 j6 4))), (3, .ref (am 5 j6)), (2, .int (iZ y)), (0, .ref (am 1 0))]) hx hb dX3_trailerCount_28 rfl hl (by decide) rfl (fun ls hl => ?_)
        refine z_iinc (k := 2) (lv' := [(2, .int (iZ (y + 1))), (1, .int (iZ (x + S 5 j6 4))), (3, .ref (am 5 j6)), (0, .ref (am 1 0))]) hx hb dX3_trailerCount_29 hl rfl (by decide) rfl (fun ls hl => ?_)
        refine lv_goto (tgt := 4) hx hb dX3_trailerCount_32 (by decide) ?_
        exact ih4 (x := (x + S 5 j6 4)) (y := (y + 1)) (h1 := by omega) (h2 := by rw [ySum_s (by omega), if_pos (by omega), ← ej6, Int.toNat_natCast]; omega) (h3 := by have := hc.2 j6 v7; omega) (hk4 := by omega) (hI := hI) (hl := lv_sub hl [0, 1, 3] rfl)
set_option maxHeartbeats 4000000 in
set_option maxRecDepth 100000 in
theorem c_X3_allowMove (l : Launch) (D : va_G) (cA : Nat → ClassId) (n : Nat → Nat) (am : ts_Am) (S : ts_St) (sz : Nat) (a b : Int) (hW : cW n S) (ha : iR a) (hb1 : iR b) : Met l yX3_allowMove wsX3_allowMove ({ frames := 1, cells := 0, slots := 0, locals := 21 } : Room) (va_Pc [.ref (am 1 0), .int (iZ a), .int (iZ b)] (zP TX D cA (n, am, S) sz)) (zQi TX D cA (n, am, S) sz (fun z u => z = zB (yAllow S a b) ∧ u = (n, am, S))) 0 0 (ts_A (n, am, S) sz) := by
  refine zM_of (by decide) rfl (Nat.le_of_ble_eq_true rfl) ?_
  intro p e s m below meth c hx hb hr hts hown hlocks hml hname hK hsz H locs hI ls hl
  subst hsz
  have hown : s.vm.findClass RX3 = some m.cls := hown
  have hl : lv_has ls 6 [(0, .ref (am 1 0)), (1, .int (iZ a)), (2, .int (iZ b))] := hl
  refine lv_aload_n hx hb dX3_allowMove_0 rfl (lv_at hl 0 rfl) ?_
  refine lv_iload_n hx hb dX3_allowMove_1 rfl (lv_at hl 1 rfl) ?_
  refine zc_q (zrV (As := [.int (iZ a)]) (rest := []) (κ := 1) (i := 0) ⟨hx, hb, hml, hown, hts⟩ (c_X3_laneAt l D cA n am S H.size a hW (by omega)) (cwV 1 hts gX3_allowMove_X3_laneAt rfl rfl rfl (by decide +kernel) ⟨Nat.le_of_ble_eq_true rfl, Nat.le_of_ble_eq_true rfl⟩) hK hI hW.1.2.1 rfl rfl rfl hl.1 rfl (Nat.le_of_ble_eq_true rfl) dX3_allowMove_2 ⟨Nat.le_of_ble_eq_true rfl, Nat.le_of_ble_eq_true rfl⟩) hI (fun u9 H locs hp3 hI hfr => ?_) (fun j4 u9 H locs v5 hp3 hI hfr => ?_)
  · clear hfr
    obtain ⟨ez1, rfl⟩ := hp3
    refine lv_astore_nN (lv' := [(3, .null), (0, .ref (am 1 0)), (1, .int (iZ a)), (2, .int (iZ b))]) hx hb dX3_allowMove_5 rfl hl (by decide) rfl (fun ls hl => ?_)
    refine lv_aload_n hx hb dX3_allowMove_6 rfl (lv_at hl 1 rfl) ?_
    refine lv_iload_n hx hb dX3_allowMove_7 rfl (lv_at hl 3 rfl) ?_
    refine zc_q (zrV (As := [.int (iZ b)]) (rest := []) (κ := 1) (i := 0) ⟨hx, hb, hml, hown, hts⟩ (c_X3_laneAt l D cA n am S H.size b hW (by omega)) (cwV 1 hts gX3_allowMove_X3_laneAt rfl rfl rfl (by decide +kernel) ⟨Nat.le_of_ble_eq_true rfl, Nat.le_of_ble_eq_true rfl⟩) hK hI hW.1.2.1 rfl rfl rfl hl.1 rfl (Nat.le_of_ble_eq_true rfl) dX3_allowMove_8 ⟨Nat.le_of_ble_eq_true rfl, Nat.le_of_ble_eq_true rfl⟩) hI (fun u9 H locs hp8 hI hfr => ?_) (fun j9 u9 H locs v10 hp8 hI hfr => ?_)
    · clear hfr
      obtain ⟨ez6, rfl⟩ := hp8
      refine lv_astoreN (lv' := [(4, .null), (3, .null), (0, .ref (am 1 0)), (1, .int (iZ a)), (2, .int (iZ b))]) hx hb dX3_allowMove_11 hl (by decide) rfl (fun ls hl => ?_)
      refine lv_iload_n hx hb dX3_allowMove_13 rfl (lv_at hl 3 rfl) ?_
      refine lv_iload_n hx hb dX3_allowMove_14 rfl (lv_at hl 4 rfl) ?_
      refine z_icmp_eq (tgt := 27) hx hb dX3_allowMove_15 (by decide) (by omega) (by omega) (fun c11 => ?_) (fun c11 => ?_)
      · skip
        refine z_iconst hx hb dX3_allowMove_27 ?_
        exact (ze_i (u' := (n, am, S)) (z := 0) hx hb hr (iZ_narz (by omega) (by omega)).1 hI (by omega) ⟨(zB_f (fun q => by have := q.2.1; omega)).symm, rfl⟩ (Nat.le_of_ble_eq_true rfl) (Nat.le_of_ble_eq_true rfl) dX3_allowMove_28 hlocks)
      · skip
        refine lv_aload_nN hx hb dX3_allowMove_18 rfl (lv_at hl 1 rfl) ?_
        refine lv_ifnullN (tgt := 27) hx hb dX3_allowMove_19 (by decide) ?_
        refine z_iconst hx hb dX3_allowMove_27 ?_
        exact (ze_i (u' := (n, am, S)) (z := 0) hx hb hr (iZ_narz (by omega) (by omega)).1 hI (by omega) ⟨(zB_f (fun q => by have := q.2.1; omega)).symm, rfl⟩ (Nat.le_of_ble_eq_true rfl) (Nat.le_of_ble_eq_true rfl) dX3_allowMove_28 hlocks)
    · clear hfr
      obtain ⟨ej9, rfl⟩ := hp8
      have v10 : j9 < n 5 := v10
      refine lv_astore (lv' := [(4, .ref (am 5 j9)), (3, .null), (0, .ref (am 1 0)), (1, .int (iZ a)), (2, .int (iZ b))]) hx hb dX3_allowMove_11 hl (by decide) rfl (fun ls hl => ?_)
      refine lv_iload_n hx hb dX3_allowMove_13 rfl (lv_at hl 3 rfl) ?_
      refine lv_iload_n hx hb dX3_allowMove_14 rfl (lv_at hl 4 rfl) ?_
      refine z_icmp_eq (tgt := 27) hx hb dX3_allowMove_15 (by decide) (by omega) (by omega) (fun c12 => ?_) (fun c12 => ?_)
      · skip
        refine z_iconst hx hb dX3_allowMove_27 ?_
        exact (ze_i (u' := (n, am, S)) (z := 0) hx hb hr (iZ_narz (by omega) (by omega)).1 hI (by omega) ⟨(zB_f (fun q => by have := q.2.1; omega)).symm, rfl⟩ (Nat.le_of_ble_eq_true rfl) (Nat.le_of_ble_eq_true rfl) dX3_allowMove_28 hlocks)
      · skip
        refine lv_aload_nN hx hb dX3_allowMove_18 rfl (lv_at hl 1 rfl) ?_
        refine lv_ifnullN (tgt := 27) hx hb dX3_allowMove_19 (by decide) ?_
        refine z_iconst hx hb dX3_allowMove_27 ?_
        exact (ze_i (u' := (n, am, S)) (z := 0) hx hb hr (iZ_narz (by omega) (by omega)).1 hI (by omega) ⟨(zB_f (fun q => by have := q.2.1; omega)).symm, rfl⟩ (Nat.le_of_ble_eq_true rfl) (Nat.le_of_ble_eq_true rfl) dX3_allowMove_28 hlocks)
  · clear hfr
    obtain ⟨ej4, rfl⟩ := hp3
    have v5 : j4 < n 5 := v5
    refine lv_astore_n (lv' := [(3, .ref (am 5 j4)), (0, .ref (am 1 0)), (1, .int (iZ a)), (2, .int (iZ b))]) hx hb dX3_allowMove_5 rfl hl (by decide) rfl (fun ls hl => ?_)
    refine lv_aload_n hx hb dX3_allowMove_6 rfl (lv_at hl 1 rfl) ?_
    refine lv_iload_n hx hb dX3_allowMove_7 rfl (lv_at hl 3 rfl) ?_
    refine zc_q (zrV (As := [.int (iZ b)]) (rest := []) (κ := 1) (i := 0) ⟨hx, hb, hml, hown, hts⟩ (c_X3_laneAt l D cA n am S H.size b hW (by omega)) (cwV 1 hts gX3_allowMove_X3_laneAt rfl rfl rfl (by decide +kernel) ⟨Nat.le_of_ble_eq_true rfl, Nat.le_of_ble_eq_true rfl⟩) hK hI hW.1.2.1 rfl rfl rfl hl.1 rfl (Nat.le_of_ble_eq_true rfl) dX3_allowMove_8 ⟨Nat.le_of_ble_eq_true rfl, Nat.le_of_ble_eq_true rfl⟩) hI (fun u9 H locs hp15 hI hfr => ?_) (fun j16 u9 H locs v17 hp15 hI hfr => ?_)
    · clear hfr
      obtain ⟨ez13, rfl⟩ := hp15
      refine lv_astoreN (lv' := [(4, .null), (3, .ref (am 5 j4)), (0, .ref (am 1 0)), (1, .int (iZ a)), (2, .int (iZ b))]) hx hb dX3_allowMove_11 hl (by decide) rfl (fun ls hl => ?_)
      refine lv_iload_n hx hb dX3_allowMove_13 rfl (lv_at hl 3 rfl) ?_
      refine lv_iload_n hx hb dX3_allowMove_14 rfl (lv_at hl 4 rfl) ?_
      refine z_icmp_eq (tgt := 27) hx hb dX3_allowMove_15 (by decide) (by omega) (by omega) (fun c18 => ?_) (fun c18 => ?_)
      · skip
        refine z_iconst hx hb dX3_allowMove_27 ?_
        exact (ze_i (u' := (n, am, S)) (z := 0) hx hb hr (iZ_narz (by omega) (by omega)).1 hI (by omega) ⟨(zB_f (fun q => by have := q.2.2.1; omega)).symm, rfl⟩ (Nat.le_of_ble_eq_true rfl) (Nat.le_of_ble_eq_true rfl) dX3_allowMove_28 hlocks)
      · skip
        refine lv_aload_n hx hb dX3_allowMove_18 rfl (lv_at hl 1 rfl) ?_
        refine lv_ifnull hx hb dX3_allowMove_19 ?_
        refine lv_aloadN hx hb dX3_allowMove_22 (lv_at hl 0 rfl) ?_
        refine lv_ifnonnullN hx hb dX3_allowMove_24 ?_
        refine z_iconst hx hb dX3_allowMove_27 ?_
        exact (ze_i (u' := (n, am, S)) (z := 0) hx hb hr (iZ_narz (by omega) (by omega)).1 hI (by omega) ⟨(zB_f (fun q => by have := q.2.2.1; omega)).symm, rfl⟩ (Nat.le_of_ble_eq_true rfl) (Nat.le_of_ble_eq_true rfl) dX3_allowMove_28 hlocks)
    · clear hfr
      obtain ⟨ej16, rfl⟩ := hp15
      have v17 : j16 < n 5 := v17
      refine lv_astore (lv' := [(4, .ref (am 5 j16)), (3, .ref (am 5 j4)), (0, .ref (am 1 0)), (1, .int (iZ a)), (2, .int (iZ b))]) hx hb dX3_allowMove_11 hl (by decide) rfl (fun ls hl => ?_)
      refine lv_iload_n hx hb dX3_allowMove_13 rfl (lv_at hl 3 rfl) ?_
      refine lv_iload_n hx hb dX3_allowMove_14 rfl (lv_at hl 4 rfl) ?_
      refine z_icmp_eq (tgt := 27) hx hb dX3_allowMove_15 (by decide) (by omega) (by omega) (fun c19 => ?_) (fun c19 => ?_)
      · skip
        refine z_iconst hx hb dX3_allowMove_27 ?_
        exact (ze_i (u' := (n, am, S)) (z := 0) hx hb hr (iZ_narz (by omega) (by omega)).1 hI (by omega) ⟨(zB_f (fun q => q.1 (by omega))).symm, rfl⟩ (Nat.le_of_ble_eq_true rfl) (Nat.le_of_ble_eq_true rfl) dX3_allowMove_28 hlocks)
      · skip
        refine lv_aload_n hx hb dX3_allowMove_18 rfl (lv_at hl 1 rfl) ?_
        refine lv_ifnull hx hb dX3_allowMove_19 ?_
        refine lv_aload hx hb dX3_allowMove_22 (lv_at hl 0 rfl) ?_
        refine lv_ifnonnull (tgt := 29) hx hb dX3_allowMove_24 (by decide) ?_
        refine lv_aload_n hx hb dX3_allowMove_29 rfl (lv_at hl 1 rfl) ?_
        refine z_iconst hx hb dX3_allowMove_30 ?_
        refine zc_q (zrV (As := [.int (iZ 0)]) (rest := []) (κ := 5) (i := j4) ⟨hx, hb, hml, hown, hts⟩ (c_X2_fromExit l D cA n am S H.size j4 0 hW v5 (by omega)) (cwV 1 hts gX3_allowMove_X2_fromExit rfl rfl rfl (by decide +kernel) ⟨Nat.le_of_ble_eq_true rfl, Nat.le_of_ble_eq_true rfl⟩) hK hI v5 rfl rfl rfl hl.1 rfl (Nat.le_of_ble_eq_true rfl) dX3_allowMove_31 ⟨Nat.le_of_ble_eq_true rfl, Nat.le_of_ble_eq_true rfl⟩) hI (fun u9 H locs hp22 hI hfr => ?_) (fun j23 u9 H locs v24 hp22 hI hfr => ?_)
        · clear hfr
          obtain ⟨ez20, rfl⟩ := hp22
          refine lv_astoreN (lv' := [(5, .null), (4, .ref (am 5 j16)), (3, .ref (am 5 j4)), (0, .ref (am 1 0)), (1, .int (iZ a)), (2, .int (iZ b))]) hx hb dX3_allowMove_34 hl (by decide) rfl (fun ls hl => ?_)
          refine lv_aloadN hx hb dX3_allowMove_36 (lv_at hl 0 rfl) ?_
          refine lv_ifnullN (tgt := 55) hx hb dX3_allowMove_38 (by decide) ?_
          refine z_iconst hx hb dX3_allowMove_55 ?_
          exact (ze_i (u' := (n, am, S)) (z := 0) hx hb hr (iZ_narz (by omega) (by omega)).1 hI (by omega) ⟨(zB_f (yAllow_f3 ej4 ez20)).symm, rfl⟩ (Nat.le_of_ble_eq_true rfl) (Nat.le_of_ble_eq_true rfl) dX3_allowMove_56 hlocks)
        · clear hfr
          obtain ⟨ej23, rfl⟩ := hp22
          have v24 : j23 < n 8 := v24
          refine lv_astore (lv' := [(5, .ref (am 8 j23)), (4, .ref (am 5 j16)), (3, .ref (am 5 j4)), (0, .ref (am 1 0)), (1, .int (iZ a)), (2, .int (iZ b))]) hx hb dX3_allowMove_34 hl (by decide) rfl (fun ls hl => ?_)
          refine lv_aload hx hb dX3_allowMove_36 (lv_at hl 0 rfl) ?_
          refine lv_ifnull hx hb dX3_allowMove_38 ?_
          refine lv_aload hx hb dX3_allowMove_41 (lv_at hl 1 rfl) ?_
          refine lv_aload hx hb dX3_allowMove_43 (lv_at hl 0 rfl) ?_
          refine zc_i (zrV (As := [.ref (am 8 j23)]) (rest := []) (κ := 5) (i := j16) ⟨hx, hb, hml, hown, hts⟩ (c_X2_canTake l D cA n am S H.size j16 j23 v17 v24) (cwV 1 hts gX3_allowMove_X2_canTake rfl rfl rfl (by decide +kernel) ⟨Nat.le_of_ble_eq_true rfl, Nat.le_of_ble_eq_true rfl⟩) hK hI v17 rfl rfl rfl hl.1 rfl (Nat.le_of_ble_eq_true rfl) dX3_allowMove_45 ⟨Nat.le_of_ble_eq_true rfl, Nat.le_of_ble_eq_true rfl⟩) hI (fun z25 u9 H locs hz26 hp27 hI hfr => ?_)
          clear hfr
          obtain ⟨rfl, rfl⟩ := hp27
          refine z_if_eq (tgt := 55) hx hb dX3_allowMove_48 (by decide) (by omega) (fun c28 => ?_) (fun c28 => ?_)
          · skip
            have c28 := zB_0 c28
            have c_take := c28
            refine z_iconst hx hb dX3_allowMove_55 ?_
            exact (ze_i (u' := (n, am, S)) (z := 0) hx hb hr (iZ_narz (by omega) (by omega)).1 hI (by omega) ⟨(zB_f (yAllow_f4 ej4 ej16 ej23 c_take)).symm, rfl⟩ (Nat.le_of_ble_eq_true rfl) (Nat.le_of_ble_eq_true rfl) dX3_allowMove_56 hlocks)
          · skip
            have c28 := zB_1 c28
            have c_take := c28
            refine z_iconst hx hb dX3_allowMove_51 ?_
            refine lv_goto (tgt := 56) hx hb dX3_allowMove_52 (by decide) ?_
            exact (ze_i (u' := (n, am, S)) (z := 1) hx hb hr (iZ_narz (by omega) (by omega)).1 hI (by omega) ⟨(zB_t (yAllow_t (by omega) ej4 ej16 ej23 c_take)).symm, rfl⟩ (Nat.le_of_ble_eq_true rfl) (Nat.le_of_ble_eq_true rfl) dX3_allowMove_56 hlocks)
set_option maxHeartbeats 4000000 in
set_option maxRecDepth 100000 in
theorem c_X3_moveNearest (l : Launch) (D : va_G) (cA : Nat → ClassId) (n : Nat → Nat) (am : ts_Am) (S : ts_St) (sz : Nat) (a b : Int) (hW : cW n S) (ha : iR a) (hb1 : iR b) : Met l yX3_moveNearest wsX3_moveNearest ({ frames := 2, cells := 0, slots := 0, locals := 42 } : Room) (va_Pc [.ref (am 1 0), .int (iZ a), .int (iZ b)] (zP TX D cA (n, am, S) sz)) (zQv TX D cA (n, am, S) sz (fun u => u = (n, am, yMove S a b))) 0 0 (ts_A (n, am, S) sz) := by
  refine zM_of (by decide) rfl (Nat.le_of_ble_eq_true rfl) ?_
  intro p e s m below meth c hx hb hr hts hown hlocks hml hname hK hsz H locs hI ls hl
  subst hsz
  have hown : s.vm.findClass RX3 = some m.cls := hown
  have hl : lv_has ls 6 [(0, .ref (am 1 0)), (1, .int (iZ a)), (2, .int (iZ b))] := hl
  refine lv_aload_n hx hb dX3_moveNearest_0 rfl (lv_at hl 0 rfl) ?_
  refine lv_iload_n hx hb dX3_moveNearest_1 rfl (lv_at hl 1 rfl) ?_
  refine zc_q (zrV (As := [.int (iZ a)]) (rest := []) (κ := 1) (i := 0) ⟨hx, hb, hml, hown, hts⟩ (c_X3_laneAt l D cA n am S H.size a hW (by omega)) (cwV 1 hts gX3_moveNearest_X3_laneAt rfl rfl rfl (by decide +kernel) ⟨Nat.le_of_ble_eq_true rfl, Nat.le_of_ble_eq_true rfl⟩) hK hI hW.1.2.1 rfl rfl rfl hl.1 rfl (Nat.le_of_ble_eq_true rfl) dX3_moveNearest_2 ⟨Nat.le_of_ble_eq_true rfl, Nat.le_of_ble_eq_true rfl⟩) hI (fun u9 H locs hp3 hI hfr => ?_) (fun j4 u9 H locs v5 hp3 hI hfr => ?_)
  · clear hfr
    obtain ⟨ez1, rfl⟩ := hp3
    refine lv_astore_nN (lv' := [(3, .null), (0, .ref (am 1 0)), (1, .int (iZ a)), (2, .int (iZ b))]) hx hb dX3_moveNearest_5 rfl hl (by decide) rfl (fun ls hl => ?_)
    refine lv_aload_n hx hb dX3_moveNearest_6 rfl (lv_at hl 1 rfl) ?_
    refine lv_iload_n hx hb dX3_moveNearest_7 rfl (lv_at hl 3 rfl) ?_
    refine zc_q (zrV (As := [.int (iZ b)]) (rest := []) (κ := 1) (i := 0) ⟨hx, hb, hml, hown, hts⟩ (c_X3_laneAt l D cA n am S H.size b hW (by omega)) (cwV 1 hts gX3_moveNearest_X3_laneAt rfl rfl rfl (by decide +kernel) ⟨Nat.le_of_ble_eq_true rfl, Nat.le_of_ble_eq_true rfl⟩) hK hI hW.1.2.1 rfl rfl rfl hl.1 rfl (Nat.le_of_ble_eq_true rfl) dX3_moveNearest_8 ⟨Nat.le_of_ble_eq_true rfl, Nat.le_of_ble_eq_true rfl⟩) hI (fun u9 H locs hp8 hI hfr => ?_) (fun j9 u9 H locs v10 hp8 hI hfr => ?_)
    · clear hfr
      obtain ⟨ez6, rfl⟩ := hp8
      refine lv_astoreN (lv' := [(4, .null), (3, .null), (0, .ref (am 1 0)), (1, .int (iZ a)), (2, .int (iZ b))]) hx hb dX3_moveNearest_11 hl (by decide) rfl (fun ls hl => ?_)
      refine lv_aload_nN hx hb dX3_moveNearest_13 rfl (lv_at hl 1 rfl) ?_
      refine lv_ifnullN (tgt := 40) hx hb dX3_moveNearest_14 (by decide) ?_
      exact (ze_v (u' := (n, am, S)) hx hb hr hI (by rw [yMove_f (by omega)]) (Nat.le_of_ble_eq_true rfl) (Nat.le_of_ble_eq_true rfl) dX3_moveNearest_40 hlocks)
    · clear hfr
      obtain ⟨ej9, rfl⟩ := hp8
      have v10 : j9 < n 5 := v10
      refine lv_astore (lv' := [(4, .ref (am 5 j9)), (3, .null), (0, .ref (am 1 0)), (1, .int (iZ a)), (2, .int (iZ b))]) hx hb dX3_moveNearest_11 hl (by decide) rfl (fun ls hl => ?_)
      refine lv_aload_nN hx hb dX3_moveNearest_13 rfl (lv_at hl 1 rfl) ?_
      refine lv_ifnullN (tgt := 40) hx hb dX3_moveNearest_14 (by decide) ?_
      exact (ze_v (u' := (n, am, S)) hx hb hr hI (by rw [yMove_f (by omega)]) (Nat.le_of_ble_eq_true rfl) (Nat.le_of_ble_eq_true rfl) dX3_moveNearest_40 hlocks)
  · clear hfr
    obtain ⟨ej4, rfl⟩ := hp3
    have v5 : j4 < n 5 := v5
    refine lv_astore_n (lv' := [(3, .ref (am 5 j4)), (0, .ref (am 1 0)), (1, .int (iZ a)), (2, .int (iZ b))]) hx hb dX3_moveNearest_5 rfl hl (by decide) rfl (fun ls hl => ?_)
    refine lv_aload_n hx hb dX3_moveNearest_6 rfl (lv_at hl 1 rfl) ?_
    refine lv_iload_n hx hb dX3_moveNearest_7 rfl (lv_at hl 3 rfl) ?_
    refine zc_q (zrV (As := [.int (iZ b)]) (rest := []) (κ := 1) (i := 0) ⟨hx, hb, hml, hown, hts⟩ (c_X3_laneAt l D cA n am S H.size b hW (by omega)) (cwV 1 hts gX3_moveNearest_X3_laneAt rfl rfl rfl (by decide +kernel) ⟨Nat.le_of_ble_eq_true rfl, Nat.le_of_ble_eq_true rfl⟩) hK hI hW.1.2.1 rfl rfl rfl hl.1 rfl (Nat.le_of_ble_eq_true rfl) dX3_moveNearest_8 ⟨Nat.le_of_ble_eq_true rfl, Nat.le_of_ble_eq_true rfl⟩) hI (fun u9 H locs hp13 hI hfr => ?_) (fun j14 u9 H locs v15 hp13 hI hfr => ?_)
    · clear hfr
      obtain ⟨ez11, rfl⟩ := hp13
      refine lv_astoreN (lv' := [(4, .null), (3, .ref (am 5 j4)), (0, .ref (am 1 0)), (1, .int (iZ a)), (2, .int (iZ b))]) hx hb dX3_moveNearest_11 hl (by decide) rfl (fun ls hl => ?_)
      refine lv_aload_n hx hb dX3_moveNearest_13 rfl (lv_at hl 1 rfl) ?_
      refine lv_ifnull hx hb dX3_moveNearest_14 ?_
      refine lv_aloadN hx hb dX3_moveNearest_17 (lv_at hl 0 rfl) ?_
      refine lv_ifnullN (tgt := 40) hx hb dX3_moveNearest_19 (by decide) ?_
      exact (ze_v (u' := (n, am, S)) hx hb hr hI (by rw [yMove_f (by omega)]) (Nat.le_of_ble_eq_true rfl) (Nat.le_of_ble_eq_true rfl) dX3_moveNearest_40 hlocks)
    · clear hfr
      obtain ⟨ej14, rfl⟩ := hp13
      have v15 : j14 < n 5 := v15
      refine lv_astore (lv' := [(4, .ref (am 5 j14)), (3, .ref (am 5 j4)), (0, .ref (am 1 0)), (1, .int (iZ a)), (2, .int (iZ b))]) hx hb dX3_moveNearest_11 hl (by decide) rfl (fun ls hl => ?_)
      refine lv_aload_n hx hb dX3_moveNearest_13 rfl (lv_at hl 1 rfl) ?_
      refine lv_ifnull hx hb dX3_moveNearest_14 ?_
      refine lv_aload hx hb dX3_moveNearest_17 (lv_at hl 0 rfl) ?_
      refine lv_ifnull hx hb dX3_moveNearest_19 ?_
      refine lv_aload_n hx hb dX3_moveNearest_22 rfl (lv_at hl 1 rfl) ?_
      refine zc_q (zrV (As := []) (rest := []) (κ := 5) (i := j4) ⟨hx, hb, hml, hown, hts⟩ (c_X2_takeOut l D cA n am S H.size j4 hW v5) (cwV 0 hts gX3_moveNearest_X2_takeOut rfl rfl rfl (by decide +kernel) ⟨Nat.le_of_ble_eq_true rfl, Nat.le_of_ble_eq_true rfl⟩) hK hI v5 rfl rfl rfl hl.1 rfl (Nat.le_of_ble_eq_true rfl) dX3_moveNearest_23 ⟨Nat.le_of_ble_eq_true rfl, Nat.le_of_ble_eq_true rfl⟩) hI (fun u9 H locs hp18 hI hfr => ?_) (fun j19 u9 H locs v20 hp18 hI hfr => ?_)
      · clear hfr
        obtain ⟨ez16, rfl⟩ := hp18
        obtain ⟨S21, eS21⟩ : ∃ z, z = yTakeOut S j4 := ⟨_, rfl⟩
        rw [← eS21] at hI
        have hW : cW n S21 := by rw [eS21]; exact yTakeOut_W hW
        refine lv_astoreN (lv' := [(5, .null), (4, .ref (am 5 j14)), (3, .ref (am 5 j4)), (0, .ref (am 1 0)), (1, .int (iZ a)), (2, .int (iZ b))]) hx hb dX3_moveNearest_26 hl (by decide) rfl (fun ls hl => ?_)
        refine lv_aloadN hx hb dX3_moveNearest_28 (lv_at hl 0 rfl) ?_
        refine lv_ifnullN (tgt := 40) hx hb dX3_moveNearest_30 (by decide) ?_
        exact (ze_v (u' := (n, am, S21)) hx hb hr hI (by rw [eS21, yMove_n ej4 ez16]) (Nat.le_of_ble_eq_true rfl) (Nat.le_of_ble_eq_true rfl) dX3_moveNearest_40 hlocks)
      · clear hfr
        obtain ⟨ej19, rfl⟩ := hp18
        have v20 : j19 < n 8 := v20
        obtain ⟨S22, eS22⟩ : ∃ z, z = yTakeOut S j4 := ⟨_, rfl⟩
        rw [← eS22] at hI
        have hW : cW n S22 := by rw [eS22]; exact yTakeOut_W hW
        refine lv_astore (lv' := [(5, .ref (am 8 j19)), (4, .ref (am 5 j14)), (3, .ref (am 5 j4)), (0, .ref (am 1 0)), (1, .int (iZ a)), (2, .int (iZ b))]) hx hb dX3_moveNearest_26 hl (by decide) rfl (fun ls hl => ?_)
        refine lv_aload hx hb dX3_moveNearest_28 (lv_at hl 0 rfl) ?_
        refine lv_ifnull hx hb dX3_moveNearest_30 ?_
        refine lv_aload hx hb dX3_moveNearest_33 (lv_at hl 1 rfl) ?_
        refine lv_aload hx hb dX3_moveNearest_35 (lv_at hl 0 rfl) ?_
        refine zc_v (zrV (As := [.ref (am 8 j19)]) (rest := []) (κ := 5) (i := j14) ⟨hx, hb, hml, hown, hts⟩ (c_X2_bringIn l D cA n am S22 H.size j14 j19 hW v15 v20) (cwV 1 hts gX3_moveNearest_X2_bringIn rfl rfl rfl (by decide +kernel) ⟨Nat.le_of_ble_eq_true rfl, Nat.le_of_ble_eq_true rfl⟩) hK hI v15 rfl rfl rfl hl.1 rfl (Nat.le_of_ble_eq_true rfl) dX3_moveNearest_37 ⟨Nat.le_of_ble_eq_true rfl, Nat.le_of_ble_eq_true rfl⟩) hI (fun u9 H locs hp23 hI hfr => ?_)
        clear hfr
        obtain rfl := hp23
        obtain ⟨S24, eS24⟩ : ∃ z, z = yBring S22 j14 j19 := ⟨_, rfl⟩
        rw [← eS24] at hI
        have hW : cW n S24 := by rw [eS24]; exact yBring_W hW
        exact (ze_v (u' := (n, am, S24)) hx hb hr hI (by rw [eS24, eS22, yMove_3 ej4 ej14 ej19]) (Nat.le_of_ble_eq_true rfl) (Nat.le_of_ble_eq_true rfl) dX3_moveNearest_40 hlocks)
