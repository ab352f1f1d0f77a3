/-! The model: its helpers. M 0 0 f: its field f; M f 0 j: the element j of its array f. -/
def mKs : List Nat := [0, 1, 2, 3, 4, 6, 7, 9, 10, 11, 12, 13, 14, 15]
def mSp (κ k : Nat) : Bool := κ == 0 && (k == 1 || k == 2 || k == 3 || k == 4 || k == 6 || k == 7 || k == 9 || k == 10 || k == 11 || k == 12 || k == 13 || k == 14 || k == 15)
def mW (n : Nat → Nat) (M : ts_St) : Prop := (∀ κ ∈ mKs, 0 < n κ) ∧ ∀ f, mSp 0 f = true → M 0 0 f = ((0 : Nat) : Int)
theorem mW.put {n : Nat → Nat} {S : ts_St} {κ i k : Nat} {v : Int} (h : mW n S) (hk : mSp κ k = false) : mW n (up3 S κ i k v) := by
  refine ⟨h.1, fun f hf => ?_⟩
  rw [up3_n]
  · exact h.2 f hf
  · rintro ⟨rfl, -, rfl⟩
    rw [hf] at hk
    cases hk
theorem mW.rf {n : Nat → Nat} {S : ts_St} (h : mW n S) (f : Nat) (hf : mSp 0 f = true) : S 0 0 f = ((0 : Nat) : Int) := h.2 f hf
abbrev mCome (S : ts_St) (t y : Nat) : Prop := S 3 0 y < S 1 0 y ∧ (S 10 0 t = 100 ∨ ¬ S 2 0 y = 0)
abbrev mServe (S : ts_St) (d t : Nat) : Prop := S 7 0 d < 0 ∧ (S 6 0 d = 98 ∨ S 6 0 d = S 10 0 t)
def mPunc (S : ts_St) (t : Nat) : Int := if S 13 0 t < S 9 0 t - S 0 0 16 then 101 else if S 13 0 t > S 9 0 t + S 0 0 16 then 108 else 111
def mWait (S : ts_St) (t : Nat) : Int := max 0 ((if S 12 0 t = 121 then S 0 0 21 else S 14 0 t) - max (S 13 0 t) (S 9 0 t))
def mCost (S : ts_St) (t : Nat) : Int := if mPunc S t = 108 ∨ mWait S t - S 0 0 17 ≤ 0 then 0 else if mWait S t - S 0 0 17 ≤ S 0 0 19 then (mWait S t - S 0 0 17) * S 0 0 18 else S 0 0 19 * S 0 0 18 + (mWait S t - S 0 0 17 - S 0 0 19) * S 0 0 20
def mComes (S : ts_St) (t y : Int) : ts_St := up3 (up3 S 4 0 (3 * y + S 3 0 y.toNat).toNat t) 3 0 y.toNat (S 3 0 y.toNat + 1)
theorem mComes_n {S : ts_St} {t y : Int} {a b c : Nat} (h : ¬ (a = 3 ∨ a = 4)) : mComes S t y a b c = S a b c := by
  unfold mComes
  rw [up3_n (by omega), up3_n (by omega)]
def mSum (S : ts_St) : Nat → Int
  | 0 => 0
  | k + 1 => mSum S k + S 3 0 k
theorem mSum_s {S : ts_St} {y : Int} (h : 0 ≤ y) : mSum S (y + 1).toNat = mSum S y.toNat + S 3 0 y.toNat := by
  obtain ⟨k, rfl⟩ := Int.eq_ofNat_of_zero_le h
  rfl
/-- the first slot of a lane's that holds t, among k -/
def mFindK (S : ts_St) (t : Int) (y : Nat) : Nat → Int
  | 0 => -1
  | k + 1 => if 0 ≤ mFindK S t y k then mFindK S t y k else if S 4 0 (3 * y + k) = t then 3 * (y : Int) + (k : Int) else -1
/-- the first slot of the first lanes' that holds t -/
def mFind (S : ts_St) (t : Int) : Nat → Int
  | 0 => -1
  | y + 1 => if 0 ≤ mFind S t y then mFind S t y else mFindK S t y (S 3 0 y).toNat
def mSlot (S : ts_St) (t : Int) : Int := mFind S t (S 0 0 0).toNat
def mAhead (S : ts_St) (t : Int) : Int := S 3 0 (mSlot S t / 3).toNat - 1 - mSlot S t % 3
theorem mFindK_up {S : ts_St} {t : Int} {y : Nat} {k : Nat} {v : Int} (h0 : 0 ≤ v) (h : mFindK S t y k = v) : ∀ j, mFindK S t y (k + j) = v
  | 0 => h
  | j + 1 => by
    have h1 := mFindK_up h0 h j
    show (if 0 ≤ mFindK S t y (k + j) then mFindK S t y (k + j) else _) = v
    rw [if_pos (by omega), h1]
theorem mFind_up {S : ts_St} {t : Int} {y : Nat} {v : Int} (h0 : 0 ≤ v) (h : mFind S t y = v) : ∀ j, mFind S t (y + j) = v
  | 0 => h
  | j + 1 => by
    have h1 := mFind_up h0 h j
    show (if 0 ≤ mFind S t (y + j) then mFind S t (y + j) else _) = v
    rw [if_pos (by omega), h1]
theorem mSlot_hit {S : ts_St} {t y x : Int} (hy : 0 ≤ y) (hy1 : y < S 0 0 0) (hx : 0 ≤ x) (hx1 : x < S 3 0 y.toNat) (h1 : mFind S t y.toNat = -1) (h2 : mFindK S t y.toNat x.toNat = -1) (h3 : S 4 0 (3 * y + x).toNat = t) : mSlot S t = 3 * y + x := by
  have e1 : mFindK S t y.toNat (x.toNat + 1) = 3 * y + x := by
    show (if 0 ≤ mFindK S t y.toNat x.toNat then _ else if S 4 0 (3 * y.toNat + x.toNat) = t then 3 * (y.toNat : Int) + (x.toNat : Int) else -1) = _
    rw [if_neg (by omega), if_pos (by rw [← h3]; congr 1; omega)]
    omega
  have e2 := mFindK_up (by omega) e1 ((S 3 0 y.toNat).toNat - (x.toNat + 1))
  rw [show x.toNat + 1 + ((S 3 0 y.toNat).toNat - (x.toNat + 1)) = (S 3 0 y.toNat).toNat by omega] at e2
  have e3 : mFind S t (y.toNat + 1) = 3 * y + x := by
    show (if 0 ≤ mFind S t y.toNat then _ else _) = _
    rw [if_neg (by omega)]
    exact e2
  have e4 := mFind_up (by omega) e3 ((S 0 0 0).toNat - (y.toNat + 1))
  rw [show y.toNat + 1 + ((S 0 0 0).toNat - (y.toNat + 1)) = (S 0 0 0).toNat by omega] at e4
  exact e4
theorem mFindK_n {S : ts_St} {t y x : Int} (hy : 0 ≤ y) (hx : 0 ≤ x) (h2 : mFindK S t y.toNat x.toNat = -1) (h3 : ¬ S 4 0 (3 * y + x).toNat = t) : mFindK S t y.toNat (x + 1).toNat = -1 := by
  rw [show (x + 1).toNat = x.toNat + 1 by omega]
  show (if 0 ≤ mFindK S t y.toNat x.toNat then _ else if S 4 0 (3 * y.toNat + x.toNat) = t then 3 * (y.toNat : Int) + (x.toNat : Int) else -1) = _
  rw [if_neg (by omega), if_neg (by rw [show 3 * y.toNat + x.toNat = (3 * y + x).toNat by omega]; exact h3)]
theorem mFind_n {S : ts_St} {t y x : Int} (hy : 0 ≤ y) (h1 : mFind S t y.toNat = -1) (h2 : mFindK S t y.toNat x.toNat = -1) (hx : S 3 0 y.toNat = x) : mFind S t (y + 1).toNat = -1 := by
  rw [show (y + 1).toNat = y.toNat + 1 by omega]
  show (if 0 ≤ mFind S t y.toNat then _ else _) = _
  rw [if_neg (by omega), hx]
  exact h2
/-- what a slot found says -/
theorem mFindK_in {S : ts_St} {t : Int} {y : Nat} : ∀ k, 0 ≤ mFindK S t y k → ∃ j : Nat, j < k ∧ mFindK S t y k = 3 * (y : Int) + (j : Int) ∧ S 4 0 (3 * y + j) = t
  | 0, h => by
    have : mFindK S t y 0 = -1 := rfl
    omega
  | k + 1, h => by
    have e : mFindK S t y (k + 1) = if 0 ≤ mFindK S t y k then mFindK S t y k else if S 4 0 (3 * y + k) = t then 3 * (y : Int) + (k : Int) else -1 := rfl
    by_cases h1 : 0 ≤ mFindK S t y k
    · rw [if_pos h1] at e
      obtain ⟨j, h2, h3, h4⟩ := mFindK_in k h1
      exact ⟨j, by omega, by rw [e, h3], h4⟩
    · rw [if_neg h1] at e
      by_cases h2 : S 4 0 (3 * y + k) = t
      · rw [if_pos h2] at e
        exact ⟨k, by omega, e, h2⟩
      · rw [if_neg h2] at e
        omega
theorem mFind_in {S : ts_St} {t : Int} : ∀ y, 0 ≤ mFind S t y → ∃ a j : Nat, a < y ∧ (j : Int) < S 3 0 a ∧ mFind S t y = 3 * (a : Int) + (j : Int) ∧ S 4 0 (3 * a + j) = t
  | 0, h => by
    have : mFind S t 0 = -1 := rfl
    omega
  | y + 1, h => by
    have e : mFind S t (y + 1) = if 0 ≤ mFind S t y then mFind S t y else mFindK S t y (S 3 0 y).toNat := rfl
    by_cases h1 : 0 ≤ mFind S t y
    · rw [if_pos h1] at e
      obtain ⟨a, j, h2, h3, h4, h5⟩ := mFind_in y h1
      exact ⟨a, j, by omega, h3, by rw [e, h4], h5⟩
    · rw [if_neg h1] at e
      obtain ⟨j, h2, h3, h4⟩ := mFindK_in _ (by rw [← e]; exact h)
      exact ⟨y, j, by omega, by omega, by rw [e, h3], h4⟩
theorem mFindK_none {S : ts_St} {t : Int} {y : Nat} : ∀ k, mFindK S t y k < 0 → ∀ j, j < k → ¬ S 4 0 (3 * y + j) = t
  | 0, _, j, hj => by omega
  | k + 1, h, j, hj => by
    have e : mFindK S t y (k + 1) = if 0 ≤ mFindK S t y k then mFindK S t y k else if S 4 0 (3 * y + k) = t then 3 * (y : Int) + (k : Int) else -1 := rfl
    by_cases h1 : 0 ≤ mFindK S t y k
    · rw [if_pos h1] at e
      omega
    · rw [if_neg h1] at e
      by_cases h2 : S 4 0 (3 * y + k) = t
      · rw [if_pos h2] at e
        omega
      · by_cases hjk : j = k
        · subst hjk
          exact h2
        · exact mFindK_none k (by omega) j (by omega)
theorem mFind_none {S : ts_St} {t : Int} : ∀ y, mFind S t y < 0 → ∀ a j : Nat, a < y → (j : Int) < S 3 0 a → ¬ S 4 0 (3 * a + j) = t
  | 0, _, a, j, ha, _ => by omega
  | y + 1, h, a, j, ha, hj => by
    have e : mFind S t (y + 1) = if 0 ≤ mFind S t y then mFind S t y else mFindK S t y (S 3 0 y).toNat := rfl
    by_cases h1 : 0 ≤ mFind S t y
    · rw [if_pos h1] at e
      omega
    · rw [if_neg h1] at e
      by_cases hay : a = y
      · subst hay
        exact mFindK_none _ (by rw [← e]; exact h) j (by omega)
      · exact mFind_none y (by omega) a j (by omega) hj
theorem mSlot_R {S : ts_St} {t : Int} (hl : S 0 0 0 ≤ 4) (hc : ∀ l : Nat, 0 ≤ S 3 0 l ∧ S 3 0 l ≤ 3) : -1 ≤ mSlot S t ∧ mSlot S t < 12 := by
  by_cases h : 0 ≤ mSlot S t
  · obtain ⟨a, j, h1, h2, h3, -⟩ := mFind_in _ h
    have := hc a
    unfold mSlot at *
    omega
  · suffices ∀ y, -1 ≤ mFind S t y by
      have := this (S 0 0 0).toNat
      unfold mSlot at *
      omega
    intro y
    induction y with
    | zero => exact Int.le_refl _
    | succ y ih =>
      have e : mFind S t (y + 1) = if 0 ≤ mFind S t y then mFind S t y else mFindK S t y (S 3 0 y).toNat := rfl
      by_cases h1 : 0 ≤ mFind S t y
      · rw [if_pos h1] at e
        omega
      · rw [if_neg h1] at e
        rw [e]
        generalize (S 3 0 y).toNat = k
        induction k with
        | zero => exact Int.le_refl _
        | succ k ih2 =>
          have e : mFindK S t y (k + 1) = if 0 ≤ mFindK S t y k then mFindK S t y k else if S 4 0 (3 * y + k) = t then 3 * (y : Int) + (k : Int) else -1 := rfl
          rw [e]
          split
          · omega
          · split <;> omega
abbrev mReach (S : ts_St) (t : Int) : Prop := 0 ≤ mSlot S t ∧ mAhead S t = 0

set_option maxHeartbeats 4000000 in
set_option maxRecDepth 100000 in
theorem c_X5_thrown (l : Launch) (D : va_G) (cA : Nat → ClassId) (n : Nat → Nat) (am : ts_Am) (S : ts_St) (sz : Nat)  (hW : mW n S) : Met l yX5_thrown wsX5_thrown ({ frames := 0, cells := 0, slots := 0, locals := 0 } : Room) (va_Pc [.ref (am 0 0)] (zP TM D cA (n, am, S) sz)) (zQi TM D cA (n, am, S) sz (fun z u => z = S 0 0 24 ∧ u = (n, am, S))) 0 0 (ts_A (n, am, S) sz) := by
  refine zM_of (by decide) rfl (Nat.le_of_ble_eq_true rfl) ?_
  intro p e s m below meth c hx hb hr hts hown hlocks hml hname hK hsz H locs hI ls hl
  subst hsz
  have hown : s.vm.findClass RX5 = some m.cls := hown
  have hl : lv_has ls 1 [(0, .ref (am 0 0))] := hl
  have f67 := hts (.fieldLink RX5 67 "DockyardSlotsModel" "code" "I") (by decide +kernel)
  have LX5 : ∀ w ∈ wsX50, w.before [.ref (am 0 0)].toArray s = true := fun w h => hts w (List.mem_cons_of_mem _ (List.mem_append_right _ h))
  refine lv_aload_n hx hb dX5_thrown_0 rfl (lv_at hl 0 rfl) ?_
  refine zg_i (κ := 0) (i := 0) (k := 24) hx hb LX5 hown hK hI (hW.1 0 (by decide)) rfl rfl (by decide) rfl f67 (fun _ h9 => h9) dX5_thrown_1 rfl (fun b1 => ?_)
  exact (ze_i (u' := (n, am, S)) (z := S 0 0 24) hx hb hr rfl hI (by omega) ⟨rfl, rfl⟩ (Nat.le_of_ble_eq_true rfl) (Nat.le_of_ble_eq_true rfl) dX5_thrown_4 hlocks)
set_option maxHeartbeats 4000000 in
set_option maxRecDepth 100000 in
theorem c_X5_fails (l : Launch) (D : va_G) (cA : Nat → ClassId) (n : Nat → Nat) (am : ts_Am) (S : ts_St) (sz : Nat) (x : Int) (hW : mW n S) (hx0 : ts_bd x) : Met l yX5_fails wsX5_fails ({ frames := 0, cells := 0, slots := 0, locals := 0 } : Room) (va_Pc [.ref (am 0 0), .int (iZ x)] (zP TM D cA (n, am, S) sz)) (zQi TM D cA (n, am, S) sz (fun z u => z = zB (0 < x) ∧ u = (n, am, up3 S 0 0 24 x))) 0 0 (ts_A (n, am, S) sz) := by
  refine zM_of (by decide) rfl (Nat.le_of_ble_eq_true rfl) ?_
  intro p e s m below meth c hx hb hr hts hown hlocks hml hname hK hsz H locs hI ls hl
  subst hsz
  have hown : s.vm.findClass RX5 = some m.cls := hown
  have hl : lv_has ls 2 [(0, .ref (am 0 0)), (1, .int (iZ x))] := hl
  have f67 := hts (.fieldLink RX5 67 "DockyardSlotsModel" "code" "I") (by decide +kernel)
  have LX5 : ∀ w ∈ wsX50, w.before [.ref (am 0 0), .int (iZ x)].toArray s = true := fun w h => hts w (List.mem_cons_of_mem _ (List.mem_append_right _ h))
  refine lv_aload_n hx hb dX5_fails_0 rfl (lv_at hl 0 rfl) ?_
  refine lv_iload_n hx hb dX5_fails_1 rfl (lv_at hl 1 rfl) ?_
  refine zp_i (κ := 0) (i := 0) (k := 24) hx hb LX5 tyX5 tyX5_ok nmX5 hown hK hI (hW.1 0 (by decide)) rfl rfl (by decide) rfl f67 (fun _ h9 => h9) rfl rfl rfl (by omega) dX5_fails_2 (fun H locs hI => ?_)
  obtain ⟨S1, eS1⟩ : ∃ z, z = up3 S 0 0 24 x := ⟨_, rfl⟩
  rw [← eS1] at hI
  have hW : mW n S1 := by rw [eS1]; exact hW.put rfl
  refine lv_iload_n hx hb dX5_fails_5 rfl (lv_at hl 1 rfl) ?_
  refine z_if_le (tgt := 13) hx hb dX5_fails_6 (by decide) (by omega) (fun c2 => ?_) (fun c2 => ?_)
  · skip
    refine z_iconst hx hb dX5_fails_13 ?_
    exact (ze_i (u' := (n, am, S1)) (z := 0) hx hb hr (iZ_narz (by omega) (by omega)).1 hI (by omega) ⟨(zB_f (by omega)).symm, by rw [eS1]⟩ (Nat.le_of_ble_eq_true rfl) (Nat.le_of_ble_eq_true rfl) dX5_fails_14 hlocks)
  · skip
    refine z_iconst hx hb dX5_fails_9 ?_
    refine lv_goto (tgt := 14) hx hb dX5_fails_10 (by decide) ?_
    exact (ze_i (u' := (n, am, S1)) (z := 1) hx hb hr (iZ_narz (by omega) (by omega)).1 hI (by omega) ⟨(zB_t (by omega)).symm, by rw [eS1]⟩ (Nat.le_of_ble_eq_true rfl) (Nat.le_of_ble_eq_true rfl) dX5_fails_14 hlocks)
set_option maxHeartbeats 4000000 in
set_option maxRecDepth 100000 in
theorem c_X5_tells (l : Launch) (D : va_G) (cA : Nat → ClassId) (n : Nat → Nat) (am : ts_Am) (S : ts_St) (sz : Nat) (x : Int) (hW : mW n S) (hx0 : iR x) : Met l yX5_tells wsX5_tells ({ frames := 0, cells := 0, slots := 0, locals := 0 } : Room) (va_Pc [.ref (am 0 0), .int (iZ x)] (zP TM D cA (n, am, S) sz)) (zQi TM D cA (n, am, S) sz (fun z u => z = x ∧ u = (n, am, up3 S 0 0 24 0))) 0 0 (ts_A (n, am, S) sz) := by
  refine zM_of (by decide) rfl (Nat.le_of_ble_eq_true rfl) ?_
  intro p e s m below meth c hx hb hr hts hown hlocks hml hname hK hsz H locs hI ls hl
  subst hsz
  have hown : s.vm.findClass RX5 = some m.cls := hown
  have hl : lv_has ls 2 [(0, .ref (am 0 0)), (1, .int (iZ x))] := hl
  have f67 := hts (.fieldLink RX5 67 "DockyardSlotsModel" "code" "I") (by decide +kernel)
  have LX5 : ∀ w ∈ wsX50, w.before [.ref (am 0 0), .int (iZ x)].toArray s = true := fun w h => hts w (List.mem_cons_of_mem _ (List.mem_append_right _ h))
  refine lv_aload_n hx hb dX5_tells_0 rfl (lv_at hl 0 rfl) ?_
  refine z_iconst hx hb dX5_tells_1 ?_
  refine zp_i (κ := 0) (i := 0) (k := 24) hx hb LX5 tyX5 tyX5_ok nmX5 hown hK hI (hW.1 0 (by decide)) rfl rfl (by decide) rfl f67 (fun _ h9 => h9) rfl rfl rfl (by omega) dX5_tells_2 (fun H locs hI => ?_)
  obtain ⟨S1, eS1⟩ : ∃ z, z = up3 S 0 0 24 0 := ⟨_, rfl⟩
  rw [← eS1] at hI
  have hW : mW n S1 := by rw [eS1]; exact hW.put rfl
  refine lv_iload_n hx hb dX5_tells_5 rfl (lv_at hl 1 rfl) ?_
  exact (ze_i (u' := (n, am, S1)) (z := x) hx hb hr rfl hI (by omega) ⟨rfl, by rw [eS1]⟩ (Nat.le_of_ble_eq_true rfl) (Nat.le_of_ble_eq_true rfl) dX5_tells_6 hlocks)
set_option maxHeartbeats 4000000 in
set_option maxRecDepth 100000 in
theorem c_X5_in (l : Launch) (D : va_G) (cA : Nat → ClassId) (n : Nat → Nat) (am : ts_Am) (S : ts_St) (sz : Nat) (a b d : Int) (ha : iR a) (hb1 : iR b) (hd : iR d) : Met l yX5_in wsX5_in ({ frames := 0, cells := 0, slots := 0, locals := 0 } : Room) (va_Pc [.int (iZ a), .int (iZ b), .int (iZ d)] (zP TM D cA (n, am, S) sz)) (zQi TM D cA (n, am, S) sz (fun z u => z = zB (b ≤ a ∧ a ≤ d) ∧ u = (n, am, S))) 0 0 (ts_A (n, am, S) sz) := by
  refine zM_of (by decide) rfl (Nat.le_of_ble_eq_true rfl) ?_
  intro p e s m below meth c hx hb hr hts hown hlocks hml hname hK hsz H locs hI ls hl
  subst hsz
  have hown : s.vm.findClass RX5 = some m.cls := hown
  have hl : lv_has ls 3 [(0, .int (iZ a)), (1, .int (iZ b)), (2, .int (iZ d))] := hl
  refine lv_iload_n hx hb dX5_in_0 rfl (lv_at hl 0 rfl) ?_
  refine lv_iload_n hx hb dX5_in_1 rfl (lv_at hl 1 rfl) ?_
  refine z_icmp_lt (tgt := 14) hx hb dX5_in_2 (by decide) (by omega) (by omega) (fun c1 => ?_) (fun c1 => ?_)
  · skip
    refine z_iconst hx hb dX5_in_14 ?_
    exact (ze_i (u' := (n, am, S)) (z := 0) hx hb hr (iZ_narz (by omega) (by omega)).1 hI (by omega) ⟨(zB_f (by omega)).symm, rfl⟩ (Nat.le_of_ble_eq_true rfl) (Nat.le_of_ble_eq_true rfl) dX5_in_15 hlocks)
  · skip
    refine lv_iload_n hx hb dX5_in_5 rfl (lv_at hl 0 rfl) ?_
    refine lv_iload_n hx hb dX5_in_6 rfl (lv_at hl 2 rfl) ?_
    refine z_icmp_gt (tgt := 14) hx hb dX5_in_7 (by decide) (by omega) (by omega) (fun c2 => ?_) (fun c2 => ?_)
    · skip
      refine z_iconst hx hb dX5_in_14 ?_
      exact (ze_i (u' := (n, am, S)) (z := 0) hx hb hr (iZ_narz (by omega) (by omega)).1 hI (by omega) ⟨(zB_f (by omega)).symm, rfl⟩ (Nat.le_of_ble_eq_true rfl) (Nat.le_of_ble_eq_true rfl) dX5_in_15 hlocks)
    · skip
      refine z_iconst hx hb dX5_in_10 ?_
      refine lv_goto (tgt := 15) hx hb dX5_in_11 (by decide) ?_
      exact (ze_i (u' := (n, am, S)) (z := 1) hx hb hr (iZ_narz (by omega) (by omega)).1 hI (by omega) ⟨(zB_t (by omega)).symm, rfl⟩ (Nat.le_of_ble_eq_true rfl) (Nat.le_of_ble_eq_true rfl) dX5_in_15 hlocks)
set_option maxHeartbeats 4000000 in
set_option maxRecDepth 100000 in
theorem c_X5_isNoLane (l : Launch) (D : va_G) (cA : Nat → ClassId) (n : Nat → Nat) (am : ts_Am) (S : ts_St) (sz : Nat) (x : Int) (hW : mW n S) (hx0 : iR x) : Met l yX5_isNoLane wsX5_isNoLane ({ frames := 1, cells := 0, slots := 0, locals := 22 } : Room) (va_Pc [.ref (am 0 0), .int (iZ x)] (zP TM D cA (n, am, S) sz)) (zQi TM D cA (n, am, S) sz (fun z u => z = zB (¬ (0 ≤ x ∧ x < S 0 0 0)) ∧ u = (n, am, S))) 0 0 (ts_A (n, am, S) sz) := by
  refine zM_of (by decide) rfl (Nat.le_of_ble_eq_true rfl) ?_
  intro p e s m below meth c hx hb hr hts hown hlocks hml hname hK hsz H locs hI ls hl
  subst hsz
  have hown : s.vm.findClass RX5 = some m.cls := hown
  have hl : lv_has ls 2 [(0, .ref (am 0 0)), (1, .int (iZ x))] := hl
  have f70 := hts (.fieldLink RX5 70 "DockyardSlotsModel" "lanes" "I") (by decide +kernel)
  have LX5 : ∀ w ∈ wsX50, w.before [.ref (am 0 0), .int (iZ x)].toArray s = true := fun w h => hts w (List.mem_cons_of_mem _ (List.mem_append_right _ h))
  refine lv_iload_n hx hb dX5_isNoLane_0 rfl (lv_at hl 1 rfl) ?_
  refine z_iconst hx hb dX5_isNoLane_1 ?_
  refine lv_aload_n hx hb dX5_isNoLane_2 rfl (lv_at hl 0 rfl) ?_
  refine zg_i (κ := 0) (i := 0) (k := 0) hx hb LX5 hown hK hI (hW.1 0 (by decide)) rfl rfl (by decide) rfl f70 (fun _ h9 => h9) dX5_isNoLane_3 rfl (fun b1 => ?_)
  refine z_iconst hx hb dX5_isNoLane_6 ?_
  refine z_isub hx hb dX5_isNoLane_7 ?_
  refine zc_i (zrS (As := [.int (iZ x), .int (iZ 0), .int (iZ (S 0 0 0 - 1))]) (rest := []) ⟨hx, hb, hml, hown, hts⟩ (c_X5_in l D cA n am S H.size x 0 (S 0 0 0 - 1) (by omega) (by omega) (by omega)) (va_cwS 3 hts gX5_isNoLane_X5_in rfl rfl rfl (by decide +kernel) ⟨Nat.le_of_ble_eq_true rfl, Nat.le_of_ble_eq_true rfl⟩) hK hI rfl hl.1 rfl (Nat.le_of_ble_eq_true rfl) dX5_isNoLane_8 ⟨Nat.le_of_ble_eq_true rfl, Nat.le_of_ble_eq_true rfl⟩) hI (fun z2 u9 H locs hz3 hp4 hI hfr => ?_)
  clear hfr
  obtain ⟨rfl, rfl⟩ := hp4
  refine z_if_ne (tgt := 18) hx hb dX5_isNoLane_11 (by decide) (by omega) (fun c5 => ?_) (fun c5 => ?_)
  · skip
    have c5 := zB_1 c5
    refine z_iconst hx hb dX5_isNoLane_18 ?_
    exact (ze_i (u' := (n, am, S)) (z := 0) hx hb hr (iZ_narz (by omega) (by omega)).1 hI (by omega) ⟨(zB_f (by omega)).symm, rfl⟩ (Nat.le_of_ble_eq_true rfl) (Nat.le_of_ble_eq_true rfl) dX5_isNoLane_19 hlocks)
  · skip
    have c5 := zB_0 c5
    refine z_iconst hx hb dX5_isNoLane_14 ?_
    refine lv_goto (tgt := 19) hx hb dX5_isNoLane_15 (by decide) ?_
    exact (ze_i (u' := (n, am, S)) (z := 1) hx hb hr (iZ_narz (by omega) (by omega)).1 hI (by omega) ⟨(zB_t (by omega)).symm, rfl⟩ (Nat.le_of_ble_eq_true rfl) (Nat.le_of_ble_eq_true rfl) dX5_isNoLane_19 hlocks)
set_option maxHeartbeats 4000000 in
set_option maxRecDepth 100000 in
theorem c_X5_isNone (l : Launch) (D : va_G) (cA : Nat → ClassId) (n : Nat → Nat) (am : ts_Am) (S : ts_St) (sz : Nat) (x : Int) (hW : mW n S) (hx0 : iR x) : Met l yX5_isNone wsX5_isNone ({ frames := 1, cells := 0, slots := 0, locals := 22 } : Room) (va_Pc [.ref (am 0 0), .int (iZ x)] (zP TM D cA (n, am, S) sz)) (zQi TM D cA (n, am, S) sz (fun z u => z = zB (¬ (0 ≤ x ∧ x < S 0 0 8)) ∧ u = (n, am, S))) 0 0 (ts_A (n, am, S) sz) := by
  refine zM_of (by decide) rfl (Nat.le_of_ble_eq_true rfl) ?_
  intro p e s m below meth c hx hb hr hts hown hlocks hml hname hK hsz H locs hI ls hl
  subst hsz
  have hown : s.vm.findClass RX5 = some m.cls := hown
  have hl : lv_has ls 2 [(0, .ref (am 0 0)), (1, .int (iZ x))] := hl
  have f77 := hts (.fieldLink RX5 77 "DockyardSlotsModel" "booked" "I") (by decide +kernel)
  have LX5 : ∀ w ∈ wsX50, w.before [.ref (am 0 0), .int (iZ x)].toArray s = true := fun w h => hts w (List.mem_cons_of_mem _ (List.mem_append_right _ h))
  refine lv_iload_n hx hb dX5_isNone_0 rfl (lv_at hl 1 rfl) ?_
  refine z_iconst hx hb dX5_isNone_1 ?_
  refine lv_aload_n hx hb dX5_isNone_2 rfl (lv_at hl 0 rfl) ?_
  refine zg_i (κ := 0) (i := 0) (k := 8) hx hb LX5 hown hK hI (hW.1 0 (by decide)) rfl rfl (by decide) rfl f77 (fun _ h9 => h9) dX5_isNone_3 rfl (fun b1 => ?_)
  refine z_iconst hx hb dX5_isNone_6 ?_
  refine z_isub hx hb dX5_isNone_7 ?_
  refine zc_i (zrS (As := [.int (iZ x), .int (iZ 0), .int (iZ (S 0 0 8 - 1))]) (rest := []) ⟨hx, hb, hml, hown, hts⟩ (c_X5_in l D cA n am S H.size x 0 (S 0 0 8 - 1) (by omega) (by omega) (by omega)) (va_cwS 3 hts gX5_isNone_X5_in rfl rfl rfl (by decide +kernel) ⟨Nat.le_of_ble_eq_true rfl, Nat.le_of_ble_eq_true rfl⟩) hK hI rfl hl.1 rfl (Nat.le_of_ble_eq_true rfl) dX5_isNone_8 ⟨Nat.le_of_ble_eq_true rfl, Nat.le_of_ble_eq_true rfl⟩) hI (fun z2 u9 H locs hz3 hp4 hI hfr => ?_)
  clear hfr
  obtain ⟨rfl, rfl⟩ := hp4
  refine z_if_ne (tgt := 18) hx hb dX5_isNone_11 (by decide) (by omega) (fun c5 => ?_) (fun c5 => ?_)
  · skip
    have c5 := zB_1 c5
    refine z_iconst hx hb dX5_isNone_18 ?_
    exact (ze_i (u' := (n, am, S)) (z := 0) hx hb hr (iZ_narz (by omega) (by omega)).1 hI (by omega) ⟨(zB_f (by omega)).symm, rfl⟩ (Nat.le_of_ble_eq_true rfl) (Nat.le_of_ble_eq_true rfl) dX5_isNone_19 hlocks)
  · skip
    have c5 := zB_0 c5
    refine z_iconst hx hb dX5_isNone_14 ?_
    refine lv_goto (tgt := 19) hx hb dX5_isNone_15 (by decide) ?_
    exact (ze_i (u' := (n, am, S)) (z := 1) hx hb hr (iZ_narz (by omega) (by omega)).1 hI (by omega) ⟨(zB_t (by omega)).symm, rfl⟩ (Nat.le_of_ble_eq_true rfl) (Nat.le_of_ble_eq_true rfl) dX5_isNone_19 hlocks)
set_option maxHeartbeats 4000000 in
set_option maxRecDepth 100000 in
theorem c_X5_canCome (l : Launch) (D : va_G) (cA : Nat → ClassId) (n : Nat → Nat) (am : ts_Am) (S : ts_St) (sz : Nat) (t y : Int) (hW : mW n S) (ht : 0 ≤ t ∧ t < 40) (hy : 0 ≤ y ∧ y < 4) : Met l yX5_canCome wsX5_canCome ({ frames := 0, cells := 0, slots := 0, locals := 0 } : Room) (va_Pc [.ref (am 0 0), .int (iZ t), .int (iZ y)] (zP TM D cA (n, am, S) sz)) (zQi TM D cA (n, am, S) sz (fun z u => z = zB (mCome S t.toNat y.toNat) ∧ u = (n, am, S))) 0 0 (ts_A (n, am, S) sz) := by
  refine zM_of (by decide) rfl (Nat.le_of_ble_eq_true rfl) ?_
  intro p e s m below meth c hx hb hr hts hown hlocks hml hname hK hsz H locs hI ls hl
  subst hsz
  have hown : s.vm.findClass RX5 = some m.cls := hown
  have hl : lv_has ls 3 [(0, .ref (am 0 0)), (1, .int (iZ t)), (2, .int (iZ y))] := hl
  have f13 := hts (.fieldLink RX5 13 "DockyardSlotsModel" "havePower" "[Z") (by decide +kernel)
  have f17 := hts (.fieldLink RX5 17 "DockyardSlotsModel" "counts" "[I") (by decide +kernel)
  have f33 := hts (.fieldLink RX5 33 "DockyardSlotsModel" "kinds" "[C") (by decide +kernel)
  have f7 := hts (.fieldLink RX5 7 "DockyardSlotsModel" "capacities" "[I") (by decide +kernel)
  have LX5 : ∀ w ∈ wsX50, w.before [.ref (am 0 0), .int (iZ t), .int (iZ y)].toArray s = true := fun w h => hts w (List.mem_cons_of_mem _ (List.mem_append_left _ (List.mem_append_right _ h)))
  refine lv_aload_n hx hb dX5_canCome_0 rfl (lv_at hl 0 rfl) ?_
  refine zg_r (κ := 0) (i := 0) (k := 3) (t := 3) (j := 0) hx hb LX5 hown hK hI (hW.1 0 (by decide)) rfl rfl (by decide) rfl f17 (fun _ h9 => h9) dX5_canCome_1 (hW.rf 3 rfl) (fun v1 => ?_)
  refine lv_iload_n hx hb dX5_canCome_4 rfl (lv_at hl 2 rfl) ?_
  refine za_i (κ := 3) (i := 0) hx hb hK hI v1 rfl (by omega) (by omega) (by omega) dX5_canCome_5 rfl (fun b2 => ?_)
  refine lv_aload_n hx hb dX5_canCome_6 rfl (lv_at hl 0 rfl) ?_
  refine zg_r (κ := 0) (i := 0) (k := 1) (t := 1) (j := 0) hx hb LX5 hown hK hI (hW.1 0 (by decide)) rfl rfl (by decide) rfl f7 (fun _ h9 => h9) dX5_canCome_7 (hW.rf 1 rfl) (fun v3 => ?_)
  refine lv_iload_n hx hb dX5_canCome_10 rfl (lv_at hl 2 rfl) ?_
  refine za_i (κ := 1) (i := 0) hx hb hK hI v3 rfl (by omega) (by omega) (by omega) dX5_canCome_11 rfl (fun b4 => ?_)
  refine z_icmp_ge (tgt := 39) hx hb dX5_canCome_12 (by decide) (by omega) (by omega) (fun c5 => ?_) (fun c5 => ?_)
  · skip
    refine z_iconst hx hb dX5_canCome_39 ?_
    exact (ze_i (u' := (n, am, S)) (z := 0) hx hb hr (iZ_narz (by omega) (by omega)).1 hI (by omega) ⟨(zB_f (by omega)).symm, rfl⟩ (Nat.le_of_ble_eq_true rfl) (Nat.le_of_ble_eq_true rfl) dX5_canCome_40 hlocks)
  · skip
    refine lv_aload_n hx hb dX5_canCome_15 rfl (lv_at hl 0 rfl) ?_
    refine zg_r (κ := 0) (i := 0) (k := 10) (t := 10) (j := 0) hx hb LX5 hown hK hI (hW.1 0 (by decide)) rfl rfl (by decide) rfl f33 (fun _ h9 => h9) dX5_canCome_16 (hW.rf 10 rfl) (fun v6 => ?_)
    refine lv_iload_n hx hb dX5_canCome_19 rfl (lv_at hl 1 rfl) ?_
    refine za_c (κ := 10) (i := 0) hx hb hK hI v6 rfl (by omega) (by omega) (by omega) dX5_canCome_20 rfl (fun b7 => ?_)
    refine z_bipush hx hb dX5_canCome_21 (by decide) ?_
    refine z_icmp_eq (tgt := 35) hx hb dX5_canCome_23 (by decide) (by omega) (by omega) (fun c8 => ?_) (fun c8 => ?_)
    · skip
      refine z_iconst hx hb dX5_canCome_35 ?_
      refine lv_goto (tgt := 40) hx hb dX5_canCome_36 (by decide) ?_
      exact (ze_i (u' := (n, am, S)) (z := 1) hx hb hr (iZ_narz (by omega) (by omega)).1 hI (by omega) ⟨(zB_t (by omega)).symm, rfl⟩ (Nat.le_of_ble_eq_true rfl) (Nat.le_of_ble_eq_true rfl) dX5_canCome_40 hlocks)
    · skip
      refine lv_aload_n hx hb dX5_canCome_26 rfl (lv_at hl 0 rfl) ?_
      refine zg_r (κ := 0) (i := 0) (k := 2) (t := 2) (j := 0) hx hb LX5 hown hK hI (hW.1 0 (by decide)) rfl rfl (by decide) rfl f13 (fun _ h9 => h9) dX5_canCome_27 (hW.rf 2 rfl) (fun v9 => ?_)
      refine lv_iload_n hx hb dX5_canCome_30 rfl (lv_at hl 2 rfl) ?_
      refine za_z (κ := 2) (i := 0) hx hb hK hI v9 rfl (by omega) (by omega) (by omega) dX5_canCome_31 rfl (fun b10 => ?_)
      refine z_if_eq (tgt := 39) hx hb dX5_canCome_32 (by decide) (by omega) (fun c11 => ?_) (fun c11 => ?_)
      · skip
        refine z_iconst hx hb dX5_canCome_39 ?_
        exact (ze_i (u' := (n, am, S)) (z := 0) hx hb hr (iZ_narz (by omega) (by omega)).1 hI (by omega) ⟨(zB_f (by omega)).symm, rfl⟩ (Nat.le_of_ble_eq_true rfl) (Nat.le_of_ble_eq_true rfl) dX5_canCome_40 hlocks)
      · skip
        refine z_iconst hx hb dX5_canCome_35 ?_
        refine lv_goto (tgt := 40) hx hb dX5_canCome_36 (by decide) ?_
        exact (ze_i (u' := (n, am, S)) (z := 1) hx hb hr (iZ_narz (by omega) (by omega)).1 hI (by omega) ⟨(zB_t (by omega)).symm, rfl⟩ (Nat.le_of_ble_eq_true rfl) (Nat.le_of_ble_eq_true rfl) dX5_canCome_40 hlocks)
set_option maxHeartbeats 4000000 in
set_option maxRecDepth 100000 in
theorem c_X5_comes (l : Launch) (D : va_G) (cA : Nat → ClassId) (n : Nat → Nat) (am : ts_Am) (S : ts_St) (sz : Nat) (t y : Int) (hW : mW n S) (ht : 0 ≤ t ∧ t < 40) (hy : 0 ≤ y ∧ y < 4) (hc : 0 ≤ S 3 0 y.toNat ∧ S 3 0 y.toNat < 3) : Met l yX5_comes wsX5_comes ({ frames := 0, cells := 0, slots := 0, locals := 0 } : Room) (va_Pc [.ref (am 0 0), .int (iZ t), .int (iZ y)] (zP TM D cA (n, am, S) sz)) (zQv TM D cA (n, am, S) sz (fun u => u = (n, am, mComes S t y))) 0 0 (ts_A (n, am, S) sz) := by
  refine zM_of (by decide) rfl (Nat.le_of_ble_eq_true rfl) ?_
  intro p e s m below meth c hx hb hr hts hown hlocks hml hname hK hsz H locs hI ls hl
  subst hsz
  have hown : s.vm.findClass RX5 = some m.cls := hown
  have hl : lv_has ls 3 [(0, .ref (am 0 0)), (1, .int (iZ t)), (2, .int (iZ y))] := hl
  have f17 := hts (.fieldLink RX5 17 "DockyardSlotsModel" "counts" "[I") (by decide +kernel)
  have f20 := hts (.fieldLink RX5 20 "DockyardSlotsModel" "slots" "[I") (by decide +kernel)
  have LX5 : ∀ w ∈ wsX50, w.before [.ref (am 0 0), .int (iZ t), .int (iZ y)].toArray s = true := fun w h => hts w (List.mem_cons_of_mem _ (List.mem_append_left _ (List.mem_append_right _ h)))
  refine lv_aload_n hx hb dX5_comes_0 rfl (lv_at hl 0 rfl) ?_
  refine zg_r (κ := 0) (i := 0) (k := 4) (t := 4) (j := 0) hx hb LX5 hown hK hI (hW.1 0 (by decide)) rfl rfl (by decide) rfl f20 (fun _ h9 => h9) dX5_comes_1 (hW.rf 4 rfl) (fun v1 => ?_)
  refine z_iconst hx hb dX5_comes_4 ?_
  refine lv_iload_n hx hb dX5_comes_5 rfl (lv_at hl 2 rfl) ?_
  refine z_imul hx hb dX5_comes_6 ?_
  refine lv_aload_n hx hb dX5_comes_7 rfl (lv_at hl 0 rfl) ?_
  refine zg_r (κ := 0) (i := 0) (k := 3) (t := 3) (j := 0) hx hb LX5 hown hK hI (hW.1 0 (by decide)) rfl rfl (by decide) rfl f17 (fun _ h9 => h9) dX5_comes_8 (hW.rf 3 rfl) (fun v2 => ?_)
  refine lv_iload_n hx hb dX5_comes_11 rfl (lv_at hl 2 rfl) ?_
  refine za_i (κ := 3) (i := 0) hx hb hK hI v2 rfl (by omega) (by omega) (by omega) dX5_comes_12 rfl (fun b3 => ?_)
  refine z_iadd hx hb dX5_comes_13 ?_
  refine lv_iload_n hx hb dX5_comes_14 rfl (lv_at hl 1 rfl) ?_
  refine zs_i (κ := 4) (i := 0) hx hb hK hI v1 rfl (by omega) (by omega) (by omega) (by omega) dX5_comes_15 (fun H locs hI => ?_)
  obtain ⟨S4, eS4⟩ : ∃ z, z = up3 S 4 0 (((3 * y) + S 3 0 y.toNat).toNat) t := ⟨_, rfl⟩
  rw [← eS4] at hI
  have hW : mW n S4 := by rw [eS4]; exact hW.put rfl
  refine lv_aload_n hx hb dX5_comes_16 rfl (lv_at hl 0 rfl) ?_
  refine zg_r (κ := 0) (i := 0) (k := 3) (t := 3) (j := 0) hx hb LX5 hown hK hI (hW.1 0 (by decide)) rfl rfl (by decide) rfl f17 (fun _ h9 => h9) dX5_comes_17 (hW.rf 3 rfl) (fun v5 => ?_)
  refine lv_iload_n hx hb dX5_comes_20 rfl (lv_at hl 2 rfl) ?_
  refine lv_dup2_11 hx hb dX5_comes_21 rfl rfl ?_
  refine za_i (κ := 3) (i := 0) hx hb hK hI v5 rfl (by omega) (by omega) (by omega) dX5_comes_22 (by rw [eS4, up3_n (by omega)]) (fun b6 => ?_)
  refine z_iconst hx hb dX5_comes_23 ?_
  refine z_iadd hx hb dX5_comes_24 ?_
  refine zs_i (κ := 3) (i := 0) hx hb hK hI v5 rfl (by omega) (by omega) (by omega) (by omega) dX5_comes_25 (fun H locs hI => ?_)
  obtain ⟨S7, eS7⟩ : ∃ z, z = up3 S4 3 0 y.toNat (S 3 0 y.toNat + 1) := ⟨_, rfl⟩
  rw [← eS7] at hI
  have hW : mW n S7 := by rw [eS7]; exact hW.put rfl
  exact (ze_v (u' := (n, am, S7)) hx hb hr hI (by rw [eS7, eS4]; rfl) (Nat.le_of_ble_eq_true rfl) (Nat.le_of_ble_eq_true rfl) dX5_comes_26 hlocks)
set_option maxHeartbeats 4000000 in
set_option maxRecDepth 100000 in
theorem c_X5_inLanes (l : Launch) (D : va_G) (cA : Nat → ClassId) (n : Nat → Nat) (am : ts_Am) (S : ts_St) (sz : Nat)  (hW : mW n S) (hlan : 0 ≤ S 0 0 0 ∧ S 0 0 0 ≤ 4) (hcnt : ∀ l : Nat, 0 ≤ S 3 0 l ∧ S 3 0 l ≤ 3) : Met l yX5_inLanes wsX5_inLanes ({ frames := 0, cells := 0, slots := 0, locals := 0 } : Room) (va_Pc [.ref (am 0 0)] (zP TM D cA (n, am, S) sz)) (zQi TM D cA (n, am, S) sz (fun z u => z = mSum S (S 0 0 0).toNat ∧ u = (n, am, S))) 0 0 (ts_A (n, am, S) sz) := by
  refine zM_of (by decide) rfl (Nat.le_of_ble_eq_true rfl) ?_
  intro p e s m below meth c hx hb hr hts hown hlocks hml hname hK hsz H locs hI ls hl
  subst hsz
  have hown : s.vm.findClass RX5 = some m.cls := hown
  have hl : lv_has ls 3 [(0, .ref (am 0 0))] := hl
  have f17 := hts (.fieldLink RX5 17 "DockyardSlotsModel" "counts" "[I") (by decide +kernel)
  have f70 := hts (.fieldLink RX5 70 "DockyardSlotsModel" "lanes" "I") (by decide +kernel)
  have LX5 : ∀ w ∈ wsX50, w.before [.ref (am 0 0)].toArray s = true := fun w h => hts w (List.mem_cons_of_mem _ (List.mem_append_left _ (List.mem_append_right _ h)))
  refine z_iconst hx hb dX5_inLanes_0 ?_
  refine lv_istore_n (lv' := [(1, .int (iZ 0)), (0, .ref (am 0 0))]) hx hb dX5_inLanes_1 rfl hl (by decide) rfl (fun ls hl => ?_)
  refine z_iconst hx hb dX5_inLanes_2 ?_
  refine lv_istore_n (lv' := [(2, .int (iZ 0)), (1, .int (iZ 0)), (0, .ref (am 0 0))]) hx hb dX5_inLanes_3 rfl hl (by decide) rfl (fun ls hl => ?_)
  obtain ⟨x, e_x⟩ : ∃ z : Int, z = 0 := ⟨_, rfl⟩
  obtain ⟨y, e_y⟩ : ∃ z : Int, z = 0 := ⟨_, rfl⟩
  replace hl : lv_has ls 3 [(2, .int (iZ y)), (1, .int (iZ x)), (0, .ref (am 0 0))] := by rw [e_x, e_y]; exact hl
  have h1 : 0 ≤ y ∧ y ≤ S 0 0 0 := by omega
  have h2 : x = mSum S y.toNat := by rw [e_x, e_y]; rfl
  have h3 : 0 ≤ x ∧ x ≤ 3 * y := by omega
  obtain ⟨k4, hk4⟩ : ∃ k : Nat, S 0 0 0 - y < (k : Int) := ⟨(S 0 0 0 - y).toNat + 1, by omega⟩
  clear e_x e_y
  induction k4 generalizing x y H locs ls with
  | zero => omega
  | succ k4 ih4 =>
    refine lv_iload_n hx hb dX5_inLanes_4 rfl (lv_at hl 0 rfl) ?_
    refine lv_aload_n hx hb dX5_inLanes_5 rfl (lv_at hl 2 rfl) ?_
    refine zg_i (κ := 0) (i := 0) (k := 0) hx hb LX5 hown hK hI (hW.1 0 (by decide)) rfl rfl (by decide) rfl f70 (fun _ h9 => h9) dX5_inLanes_6 rfl (fun b1 => ?_)
    refine z_icmp_ge (tgt := 27) hx hb dX5_inLanes_9 (by decide) (by omega) (by omega) (fun c2 => ?_) (fun c2 => ?_)
    · skip
      refine lv_iload_n hx hb dX5_inLanes_27 rfl (lv_at hl 1 rfl) ?_
      exact (ze_i (u' := (n, am, S)) (z := x) hx hb hr rfl hI (by omega) ⟨by rw [h2, show y = S 0 0 0 by omega], rfl⟩ (Nat.le_of_ble_eq_true rfl) (Nat.le_of_ble_eq_true rfl) dX5_inLanes_28 hlocks)
    · skip
      refine lv_iload_n hx hb dX5_inLanes_12 rfl (lv_at hl 1 rfl) ?_
      refine lv_aload_n hx hb dX5_inLanes_13 rfl (lv_at hl 2 rfl) ?_
      refine zg_r (κ := 0) (i := 0) (k := 3) (t := 3) (j := 0) hx hb LX5 hown hK hI (hW.1 0 (by decide)) rfl rfl (by decide) rfl f17 (fun _ h9 => h9) dX5_inLanes_14 (hW.rf 3 rfl) (fun v3 => ?_)
      refine lv_iload_n hx hb dX5_inLanes_17 rfl (lv_at hl 0 rfl) ?_
      refine za_i (κ := 3) (i := 0) hx hb hK hI v3 rfl (by omega) (by omega) (by omega) dX5_inLanes_18 rfl (fun b4 => ?_)
      refine z_iadd hx hb dX5_inLanes_19 ?_
      refine lv_istore_n (lv' := [(1, .int (iZ (x + S 3 0 y.toNat))), (2, .int (iZ y)), (0, .ref (am 0 0))]) hx hb dX5_inLanes_20 rfl hl (by decide) rfl (fun ls hl => ?_)
      refine z_iinc (k := 1) (lv' := [(2, .int (iZ (y + 1))), (1, .int (iZ (x + S 3 0 y.toNat))), (0, .ref (am 0 0))]) hx hb dX5_inLanes_21 hl rfl (by decide) rfl (fun ls hl => ?_)
      refine lv_goto (tgt := 4) hx hb dX5_inLanes_24 (by decide) ?_
      exact ih4 (x := (x + S 3 0 y.toNat)) (y := (y + 1)) (h1 := by omega) (h2 := by rw [mSum_s (by omega), ← h2]) (h3 := by have := hcnt y.toNat; omega) (hk4 := by omega) (hI := hI) (hl := lv_sub hl [0, 1, 2] rfl)
set_option maxHeartbeats 4000000 in
set_option maxRecDepth 100000 in
theorem c_X5_punctual (l : Launch) (D : va_G) (cA : Nat → ClassId) (n : Nat → Nat) (am : ts_Am) (S : ts_St) (sz : Nat) (t : Int) (hW : mW n S) (ht : 0 ≤ t ∧ t < 40) : Met l yX5_punctual wsX5_punctual ({ frames := 0, cells := 0, slots := 0, locals := 0 } : Room) (va_Pc [.ref (am 0 0), .int (iZ t)] (zP TM D cA (n, am, S) sz)) (zQi TM D cA (n, am, S) sz (fun z u => z = mPunc S t.toNat ∧ u = (n, am, S))) 0 0 (ts_A (n, am, S) sz) := by
  refine zM_of (by decide) rfl (Nat.le_of_ble_eq_true rfl) ?_
  intro p e s m below meth c hx hb hr hts hown hlocks hml hname hK hsz H locs hI ls hl
  subst hsz
  have hown : s.vm.findClass RX5 = some m.cls := hown
  have hl : lv_has ls 2 [(0, .ref (am 0 0)), (1, .int (iZ t))] := hl
  have f30 := hts (.fieldLink RX5 30 "DockyardSlotsModel" "hours" "[I") (by decide +kernel)
  have f42 := hts (.fieldLink RX5 42 "DockyardSlotsModel" "arrivals" "[I") (by decide +kernel)
  have f51 := hts (.fieldLink RX5 51 "DockyardSlotsModel" "tolerance" "I") (by decide +kernel)
  have LX5 : ∀ w ∈ wsX50, w.before [.ref (am 0 0), .int (iZ t)].toArray s = true := fun w h => hts w (List.mem_cons_of_mem _ (List.mem_append_left _ (List.mem_append_right _ h)))
  refine lv_aload_n hx hb dX5_punctual_0 rfl (lv_at hl 0 rfl) ?_
  refine zg_r (κ := 0) (i := 0) (k := 13) (t := 13) (j := 0) hx hb LX5 hown hK hI (hW.1 0 (by decide)) rfl rfl (by decide) rfl f42 (fun _ h9 => h9) dX5_punctual_1 (hW.rf 13 rfl) (fun v1 => ?_)
  refine lv_iload_n hx hb dX5_punctual_4 rfl (lv_at hl 1 rfl) ?_
  refine za_i (κ := 13) (i := 0) hx hb hK hI v1 rfl (by omega) (by omega) (by omega) dX5_punctual_5 rfl (fun b2 => ?_)
  refine lv_aload_n hx hb dX5_punctual_6 rfl (lv_at hl 0 rfl) ?_
  refine zg_r (κ := 0) (i := 0) (k := 9) (t := 9) (j := 0) hx hb LX5 hown hK hI (hW.1 0 (by decide)) rfl rfl (by decide) rfl f30 (fun _ h9 => h9) dX5_punctual_7 (hW.rf 9 rfl) (fun v3 => ?_)
  refine lv_iload_n hx hb dX5_punctual_10 rfl (lv_at hl 1 rfl) ?_
  refine za_i (κ := 9) (i := 0) hx hb hK hI v3 rfl (by omega) (by omega) (by omega) dX5_punctual_11 rfl (fun b4 => ?_)
  refine lv_aload_n hx hb dX5_punctual_12 rfl (lv_at hl 0 rfl) ?_
  refine zg_i (κ := 0) (i := 0) (k := 16) hx hb LX5 hown hK hI (hW.1 0 (by decide)) rfl rfl (by decide) rfl f51 (fun _ h9 => h9) dX5_punctual_13 rfl (fun b5 => ?_)
  refine z_isub hx hb dX5_punctual_16 ?_
  refine z_icmp_ge (tgt := 25) hx hb dX5_punctual_17 (by decide) (by omega) (by omega) (fun c6 => ?_) (fun c6 => ?_)
  · skip
    refine lv_aload_n hx hb dX5_punctual_25 rfl (lv_at hl 0 rfl) ?_
    refine zg_r (κ := 0) (i := 0) (k := 13) (t := 13) (j := 0) hx hb LX5 hown hK hI (hW.1 0 (by decide)) rfl rfl (by decide) rfl f42 (fun _ h9 => h9) dX5_punctual_26 (hW.rf 13 rfl) (fun v7 => ?_)
    refine lv_iload_n hx hb dX5_punctual_29 rfl (lv_at hl 1 rfl) ?_
    refine za_i (κ := 13) (i := 0) hx hb hK hI v7 rfl (by omega) (by omega) (by omega) dX5_punctual_30 rfl (fun b8 => ?_)
    refine lv_aload_n hx hb dX5_punctual_31 rfl (lv_at hl 0 rfl) ?_
    refine zg_r (κ := 0) (i := 0) (k := 9) (t := 9) (j := 0) hx hb LX5 hown hK hI (hW.1 0 (by decide)) rfl rfl (by decide) rfl f30 (fun _ h9 => h9) dX5_punctual_32 (hW.rf 9 rfl) (fun v9 => ?_)
    refine lv_iload_n hx hb dX5_punctual_35 rfl (lv_at hl 1 rfl) ?_
    refine za_i (κ := 9) (i := 0) hx hb hK hI v9 rfl (by omega) (by omega) (by omega) dX5_punctual_36 rfl (fun b10 => ?_)
    refine lv_aload_n hx hb dX5_punctual_37 rfl (lv_at hl 0 rfl) ?_
    refine zg_i (κ := 0) (i := 0) (k := 16) hx hb LX5 hown hK hI (hW.1 0 (by decide)) rfl rfl (by decide) rfl f51 (fun _ h9 => h9) dX5_punctual_38 rfl (fun b11 => ?_)
    refine z_iadd hx hb dX5_punctual_41 ?_
    refine z_icmp_le (tgt := 50) hx hb dX5_punctual_42 (by decide) (by omega) (by omega) (fun c12 => ?_) (fun c12 => ?_)
    · skip
      refine z_bipush hx hb dX5_punctual_50 (by decide) ?_
      exact (ze_i (u' := (n, am, S)) (z := 111) hx hb hr (iZ_narc (by omega) (by omega)).1 hI (by omega) ⟨by unfold mPunc; repeat (first | rw [if_pos (by omega)] | rw [if_neg (by omega)]), rfl⟩ (Nat.le_of_ble_eq_true rfl) (Nat.le_of_ble_eq_true rfl) dX5_punctual_52 hlocks)
    · skip
      refine z_bipush hx hb dX5_punctual_45 (by decide) ?_
      refine lv_goto (tgt := 52) hx hb dX5_punctual_47 (by decide) ?_
      exact (ze_i (u' := (n, am, S)) (z := 108) hx hb hr (iZ_narc (by omega) (by omega)).1 hI (by omega) ⟨by unfold mPunc; repeat (first | rw [if_pos (by omega)] | rw [if_neg (by omega)]), rfl⟩ (Nat.le_of_ble_eq_true rfl) (Nat.le_of_ble_eq_true rfl) dX5_punctual_52 hlocks)
  · skip
    refine z_bipush hx hb dX5_punctual_20 (by decide) ?_
    refine lv_goto (tgt := 52) hx hb dX5_punctual_22 (by decide) ?_
    exact (ze_i (u' := (n, am, S)) (z := 101) hx hb hr (iZ_narc (by omega) (by omega)).1 hI (by omega) ⟨by unfold mPunc; repeat (first | rw [if_pos (by omega)] | rw [if_neg (by omega)]), rfl⟩ (Nat.le_of_ble_eq_true rfl) (Nat.le_of_ble_eq_true rfl) dX5_punctual_52 hlocks)
set_option maxHeartbeats 4000000 in
set_option maxRecDepth 100000 in
theorem c_X5_slotOf (l : Launch) (D : va_G) (cA : Nat → ClassId) (n : Nat → Nat) (am : ts_Am) (S : ts_St) (sz : Nat) (t : Int) (hW : mW n S) (hx0 : iR t) (hlan : 0 ≤ S 0 0 0 ∧ S 0 0 0 ≤ 4) (hcnt : ∀ l : Nat, 0 ≤ S 3 0 l ∧ S 3 0 l ≤ 3) : Met l yX5_slotOf wsX5_slotOf ({ frames := 0, cells := 0, slots := 0, locals := 0 } : Room) (va_Pc [.ref (am 0 0), .int (iZ t)] (zP TM D cA (n, am, S) sz)) (zQi TM D cA (n, am, S) sz (fun z u => z = mSlot S t ∧ u = (n, am, S))) 0 0 (ts_A (n, am, S) sz) := by
  refine zM_of (by decide) rfl (Nat.le_of_ble_eq_true rfl) ?_
  intro p e s m below meth c hx hb hr hts hown hlocks hml hname hK hsz H locs hI ls hl
  subst hsz
  have hown : s.vm.findClass RX5 = some m.cls := hown
  have hl : lv_has ls 4 [(0, .ref (am 0 0)), (1, .int (iZ t))] := hl
  have f17 := hts (.fieldLink RX5 17 "DockyardSlotsModel" "counts" "[I") (by decide +kernel)
  have f20 := hts (.fieldLink RX5 20 "DockyardSlotsModel" "slots" "[I") (by decide +kernel)
  have f70 := hts (.fieldLink RX5 70 "DockyardSlotsModel" "lanes" "I") (by decide +kernel)
  have LX5 : ∀ w ∈ wsX50, w.before [.ref (am 0 0), .int (iZ t)].toArray s = true := fun w h => hts w (List.mem_cons_of_mem _ (List.mem_append_left _ (List.mem_append_right _ h)))
  refine z_iconst hx hb dX5_slotOf_0 ?_
  refine lv_istore_n (lv' := [(2, .int (iZ 0)), (0, .ref (am 0 0)), (1, .int (iZ t))]) hx hb dX5_slotOf_1 rfl hl (by decide) rfl (fun ls hl => ?_)
  obtain ⟨y, e_y⟩ : ∃ z : Int, z = 0 := ⟨_, rfl⟩
  replace hl : lv_has ls 4 [(2, .int (iZ y)), (0, .ref (am 0 0)), (1, .int (iZ t))] := by rw [e_y]; exact hl
  have h1 : 0 ≤ y ∧ y ≤ S 0 0 0 := by omega
  have h2 : mFind S t y.toNat = -1 := by rw [e_y]; rfl
  obtain ⟨k2, hk2⟩ : ∃ k : Nat, S 0 0 0 - y < (k : Int) := ⟨(S 0 0 0 - y).toNat + 1, by omega⟩
  clear e_y
  induction k2 generalizing y H locs ls with
  | zero => omega
  | succ k2 ih2 =>
    refine lv_iload_n hx hb dX5_slotOf_2 rfl (lv_at hl 0 rfl) ?_
    refine lv_aload_n hx hb dX5_slotOf_3 rfl (lv_at hl 1 rfl) ?_
    refine zg_i (κ := 0) (i := 0) (k := 0) hx hb LX5 hown hK hI (hW.1 0 (by decide)) rfl rfl (by decide) rfl f70 (fun _ h9 => h9) dX5_slotOf_4 rfl (fun b1 => ?_)
    refine z_icmp_ge (tgt := 54) hx hb dX5_slotOf_7 (by decide) (by omega) (by omega) (fun c2 => ?_) (fun c2 => ?_)
    · skip
      refine z_iconst hx hb dX5_slotOf_54 ?_
      exact (ze_i (u' := (n, am, S)) (z := (-1)) hx hb hr rfl hI (by omega) ⟨by unfold mSlot; rw [show S 0 0 0 = y by omega, h2], rfl⟩ (Nat.le_of_ble_eq_true rfl) (Nat.le_of_ble_eq_true rfl) dX5_slotOf_55 hlocks)
    · skip
      refine z_iconst hx hb dX5_slotOf_10 ?_
      refine lv_istore_n (lv' := [(3, .int (iZ 0)), (2, .int (iZ y)), (0, .ref (am 0 0)), (1, .int (iZ t))]) hx hb dX5_slotOf_11 rfl hl (by decide) rfl (fun ls hl => ?_)
      obtain ⟨x, e_x⟩ : ∃ z : Int, z = 0 := ⟨_, rfl⟩
      replace hl : lv_has ls 4 [(3, .int (iZ x)), (2, .int (iZ y)), (0, .ref (am 0 0)), (1, .int (iZ t))] := by rw [e_x]; exact hl
      have h3 : 0 ≤ x ∧ x ≤ S 3 0 y.toNat := by have := hcnt y.toNat; omega
      have h4 : mFindK S t y.toNat x.toNat = -1 := by rw [e_x]; rfl
      obtain ⟨k12, hk12⟩ : ∃ k : Nat, S 3 0 y.toNat - x < (k : Int) := ⟨(S 3 0 y.toNat - x).toNat + 1, by omega⟩
      clear e_x
      induction k12 generalizing x H locs ls with
      | zero => omega
      | succ k12 ih12 =>
        have hcy := hcnt y.toNat
        refine lv_iload_n hx hb dX5_slotOf_12 rfl (lv_at hl 0 rfl) ?_
        refine lv_aload_n hx hb dX5_slotOf_13 rfl (lv_at hl 2 rfl) ?_
        refine zg_r (κ := 0) (i := 0) (k := 3) (t := 3) (j := 0) hx hb LX5 hown hK hI (hW.1 0 (by decide)) rfl rfl (by decide) rfl f17 (fun _ h9 => h9) dX5_slotOf_14 (hW.rf 3 rfl) (fun v3 => ?_)
        refine lv_iload_n hx hb dX5_slotOf_17 rfl (lv_at hl 1 rfl) ?_
        refine za_i (κ := 3) (i := 0) hx hb hK hI v3 rfl (by omega) (by omega) (by omega) dX5_slotOf_18 rfl (fun b4 => ?_)
        refine z_icmp_ge (tgt := 48) hx hb dX5_slotOf_19 (by decide) (by omega) (by omega) (fun c5 => ?_) (fun c5 => ?_)
        · skip
          refine z_iinc (k := 1) (lv' := [(2, .int (iZ (y + 1))), (3, .int (iZ x)), (0, .ref (am 0 0)), (1, .int (iZ t))]) hx hb dX5_slotOf_48 hl rfl (by decide) rfl (fun ls hl => ?_)
          refine lv_goto (tgt := 2) hx hb dX5_slotOf_51 (by decide) ?_
          exact ih2 (y := (y + 1)) (h1 := by omega) (h2 := by exact mFind_n (x := x) (by omega) h2 h4 (by omega)) (hk2 := by omega) (hI := hI) (hl := lv_sub hl [0, 2, 3] rfl)
        · skip
          refine lv_aload_n hx hb dX5_slotOf_22 rfl (lv_at hl 2 rfl) ?_
          refine zg_r (κ := 0) (i := 0) (k := 4) (t := 4) (j := 0) hx hb LX5 hown hK hI (hW.1 0 (by decide)) rfl rfl (by decide) rfl f20 (fun _ h9 => h9) dX5_slotOf_23 (hW.rf 4 rfl) (fun v6 => ?_)
          refine z_iconst hx hb dX5_slotOf_26 ?_
          refine lv_iload_n hx hb dX5_slotOf_27 rfl (lv_at hl 1 rfl) ?_
          refine z_imul hx hb dX5_slotOf_28 ?_
          refine lv_iload_n hx hb dX5_slotOf_29 rfl (lv_at hl 0 rfl) ?_
          refine z_iadd hx hb dX5_slotOf_30 ?_
          refine za_i (κ := 4) (i := 0) hx hb hK hI v6 rfl (by omega) (by omega) (by omega) dX5_slotOf_31 rfl (fun b7 => ?_)
          refine lv_iload_n hx hb dX5_slotOf_32 rfl (lv_at hl 3 rfl) ?_
          refine z_icmp_ne (tgt := 42) hx hb dX5_slotOf_33 (by decide) (by omega) (by omega) (fun c8 => ?_) (fun c8 => ?_)
          · skip
            refine z_iinc (k := 0) (lv' := [(3, .int (iZ (x + 1))), (2, .int (iZ y)), (0, .ref (am 0 0)), (1, .int (iZ t))]) hx hb dX5_slotOf_42 hl rfl (by decide) rfl (fun ls hl => ?_)
            refine lv_goto (tgt := 12) hx hb dX5_slotOf_45 (by decide) ?_
            exact ih12 (x := (x + 1)) (h3 := by omega) (h4 := by exact mFindK_n (by omega) (by omega) h4 c8) (hk12 := by omega) (hI := hI) (hl := lv_sub hl [0, 1, 2, 3] rfl)
          · skip
            refine z_iconst hx hb dX5_slotOf_36 ?_
            refine lv_iload_n hx hb dX5_slotOf_37 rfl (lv_at hl 1 rfl) ?_
            refine z_imul hx hb dX5_slotOf_38 ?_
            refine lv_iload_n hx hb dX5_slotOf_39 rfl (lv_at hl 0 rfl) ?_
            refine z_iadd hx hb dX5_slotOf_40 ?_
            exact (ze_i (u' := (n, am, S)) (z := ((3 * y) + x)) hx hb hr rfl hI (by omega) ⟨(mSlot_hit (by omega) (by omega) (by omega) (by omega) h2 h4 c8).symm, rfl⟩ (Nat.le_of_ble_eq_true rfl) (Nat.le_of_ble_eq_true rfl) dX5_slotOf_41 hlocks)
set_option maxHeartbeats 4000000 in
set_option maxRecDepth 100000 in
theorem c_X5_ahead (l : Launch) (D : va_G) (cA : Nat → ClassId) (n : Nat → Nat) (am : ts_Am) (S : ts_St) (sz : Nat) (t : Int) (hW : mW n S) (hx0 : iR t) (hlan : 0 ≤ S 0 0 0 ∧ S 0 0 0 ≤ 4) (hcnt : ∀ l : Nat, 0 ≤ S 3 0 l ∧ S 3 0 l ≤ 3) (hsl : 0 ≤ mSlot S t) : Met l yX5_ahead wsX5_ahead ({ frames := 1, cells := 0, slots := 0, locals := 23 } : Room) (va_Pc [.ref (am 0 0), .int (iZ t)] (zP TM D cA (n, am, S) sz)) (zQi TM D cA (n, am, S) sz (fun z u => z = mAhead S t ∧ u = (n, am, S))) 0 0 (ts_A (n, am, S) sz) := by
  refine zM_of (by decide) rfl (Nat.le_of_ble_eq_true rfl) ?_
  intro p e s m below meth c hx hb hr hts hown hlocks hml hname hK hsz H locs hI ls hl
  subst hsz
  have hown : s.vm.findClass RX5 = some m.cls := hown
  have hl : lv_has ls 3 [(0, .ref (am 0 0)), (1, .int (iZ t))] := hl
  have f17 := hts (.fieldLink RX5 17 "DockyardSlotsModel" "counts" "[I") (by decide +kernel)
  have LX5 : ∀ w ∈ wsX50, w.before [.ref (am 0 0), .int (iZ t)].toArray s = true := fun w h => hts w (List.mem_cons_of_mem _ (List.mem_append_left _ (List.mem_append_right _ h)))
  have hsr := mSlot_R (t := t) hlan.2 hcnt
  refine lv_aload_n hx hb dX5_ahead_0 rfl (lv_at hl 0 rfl) ?_
  refine lv_iload_n hx hb dX5_ahead_1 rfl (lv_at hl 1 rfl) ?_
  refine zc_i (zrV (As := [.int (iZ t)]) (rest := []) (κ := 0) (i := 0) ⟨hx, hb, hml, hown, hts⟩ (c_X5_slotOf l D cA n am S H.size t hW (by omega) hlan hcnt) (cwV 1 hts gX5_ahead_X5_slotOf rfl rfl rfl (by decide +kernel) ⟨Nat.le_of_ble_eq_true rfl, Nat.le_of_ble_eq_true rfl⟩) hK hI (hW.1 0 (by decide)) rfl rfl rfl hl.1 rfl (Nat.le_of_ble_eq_true rfl) dX5_ahead_2 ⟨Nat.le_of_ble_eq_true rfl, Nat.le_of_ble_eq_true rfl⟩) hI (fun z1 u9 H locs hz2 hp3 hI hfr => ?_)
  clear hfr
  obtain ⟨rfl, rfl⟩ := hp3
  refine lv_istore_n (lv' := [(2, .int (iZ (mSlot S t))), (0, .ref (am 0 0)), (1, .int (iZ t))]) hx hb dX5_ahead_5 rfl hl (by decide) rfl (fun ls hl => ?_)
  refine lv_aload_n hx hb dX5_ahead_6 rfl (lv_at hl 1 rfl) ?_
  refine zg_r (κ := 0) (i := 0) (k := 3) (t := 3) (j := 0) hx hb LX5 hown hK hI (hW.1 0 (by decide)) rfl rfl (by decide) rfl f17 (fun _ h9 => h9) dX5_ahead_7 (hW.rf 3 rfl) (fun v4 => ?_)
  refine lv_iload_n hx hb dX5_ahead_10 rfl (lv_at hl 0 rfl) ?_
  refine z_iconst hx hb dX5_ahead_11 ?_
  refine z_idiv hx hb dX5_ahead_12 (by omega) (by omega) (by omega) (by omega) ?_
  refine za_i (κ := 3) (i := 0) hx hb hK hI v4 rfl (by omega) (by omega) (by omega) dX5_ahead_13 rfl (fun b5 => ?_)
  refine z_iconst hx hb dX5_ahead_14 ?_
  refine z_isub hx hb dX5_ahead_15 ?_
  refine lv_iload_n hx hb dX5_ahead_16 rfl (lv_at hl 0 rfl) ?_
  refine z_iconst hx hb dX5_ahead_17 ?_
  refine z_irem hx hb dX5_ahead_18 (by omega) (by omega) (by omega) (by omega) ?_
  refine z_isub hx hb dX5_ahead_19 ?_
  exact (ze_i (u' := (n, am, S)) (z := ((S 3 0 ((mSlot S t / 3).toNat) - 1) - (mSlot S t % 3))) hx hb hr rfl hI (by have := hcnt (mSlot S t / 3).toNat; omega) ⟨rfl, rfl⟩ (Nat.le_of_ble_eq_true rfl) (Nat.le_of_ble_eq_true rfl) dX5_ahead_20 hlocks)
set_option maxHeartbeats 4000000 in
set_option maxRecDepth 100000 in
theorem c_X5_isReached (l : Launch) (D : va_G) (cA : Nat → ClassId) (n : Nat → Nat) (am : ts_Am) (S : ts_St) (sz : Nat) (t : Int) (hW : mW n S) (hx0 : iR t) (hlan : 0 ≤ S 0 0 0 ∧ S 0 0 0 ≤ 4) (hcnt : ∀ l : Nat, 0 ≤ S 3 0 l ∧ S 3 0 l ≤ 3) : Met l yX5_isReached wsX5_isReached ({ frames := 2, cells := 0, slots := 0, locals := 45 } : Room) (va_Pc [.ref (am 0 0), .int (iZ t)] (zP TM D cA (n, am, S) sz)) (zQi TM D cA (n, am, S) sz (fun z u => z = zB (mReach S t) ∧ u = (n, am, S))) 0 0 (ts_A (n, am, S) sz) := by
  refine zM_of (by decide) rfl (Nat.le_of_ble_eq_true rfl) ?_
  intro p e s m below meth c hx hb hr hts hown hlocks hml hname hK hsz H locs hI ls hl
  subst hsz
  have hown : s.vm.findClass RX5 = some m.cls := hown
  have hl : lv_has ls 2 [(0, .ref (am 0 0)), (1, .int (iZ t))] := hl
  have hsr := mSlot_R (t := t) hlan.2 hcnt
  refine lv_aload_n hx hb dX5_isReached_0 rfl (lv_at hl 0 rfl) ?_
  refine lv_iload_n hx hb dX5_isReached_1 rfl (lv_at hl 1 rfl) ?_
  refine zc_i (zrV (As := [.int (iZ t)]) (rest := []) (κ := 0) (i := 0) ⟨hx, hb, hml, hown, hts⟩ (c_X5_slotOf l D cA n am S H.size t hW (by omega) hlan hcnt) (cwV 1 hts gX5_isReached_X5_slotOf rfl rfl rfl (by decide +kernel) ⟨Nat.le_of_ble_eq_true rfl, Nat.le_of_ble_eq_true rfl⟩) hK hI (hW.1 0 (by decide)) rfl rfl rfl hl.1 rfl (Nat.le_of_ble_eq_true rfl) dX5_isReached_2 ⟨Nat.le_of_ble_eq_true rfl, Nat.le_of_ble_eq_true rfl⟩) hI (fun z1 u9 H locs hz2 hp3 hI hfr => ?_)
  clear hfr
  obtain ⟨rfl, rfl⟩ := hp3
  refine z_if_lt (tgt := 20) hx hb dX5_isReached_5 (by decide) (by omega) (fun c4 => ?_) (fun c4 => ?_)
  · skip
    refine z_iconst hx hb dX5_isReached_20 ?_
    exact (ze_i (u' := (n, am, S)) (z := 0) hx hb hr (iZ_narz (by omega) (by omega)).1 hI (by omega) ⟨(zB_f (by first | exact ⟨by omega, c4⟩ | exact (fun q => c4 q.2) | exact (fun q => by have := q.1; omega))).symm, rfl⟩ (Nat.le_of_ble_eq_true rfl) (Nat.le_of_ble_eq_true rfl) dX5_isReached_21 hlocks)
  · skip
    refine lv_aload_n hx hb dX5_isReached_8 rfl (lv_at hl 0 rfl) ?_
    refine lv_iload_n hx hb dX5_isReached_9 rfl (lv_at hl 1 rfl) ?_
    refine zc_i (zrV (As := [.int (iZ t)]) (rest := []) (κ := 0) (i := 0) ⟨hx, hb, hml, hown, hts⟩ (c_X5_ahead l D cA n am S H.size t hW (by omega) hlan hcnt (by omega)) (cwV 1 hts gX5_isReached_X5_ahead rfl rfl rfl (by decide +kernel) ⟨Nat.le_of_ble_eq_true rfl, Nat.le_of_ble_eq_true rfl⟩) hK hI (hW.1 0 (by decide)) rfl rfl rfl hl.1 rfl (Nat.le_of_ble_eq_true rfl) dX5_isReached_10 ⟨Nat.le_of_ble_eq_true rfl, Nat.le_of_ble_eq_true rfl⟩) hI (fun z5 u9 H locs hz6 hp7 hI hfr => ?_)
    clear hfr
    obtain ⟨rfl, rfl⟩ := hp7
    refine z_if_ne (tgt := 20) hx hb dX5_isReached_13 (by decide) (by have := hcnt (mSlot S t / 3).toNat; unfold mAhead; omega) (fun c8 => ?_) (fun c8 => ?_)
    · skip
      refine z_iconst hx hb dX5_isReached_20 ?_
      exact (ze_i (u' := (n, am, S)) (z := 0) hx hb hr (iZ_narz (by omega) (by omega)).1 hI (by omega) ⟨(zB_f (by first | exact ⟨by omega, c8⟩ | exact (fun q => c8 q.2) | exact (fun q => by have := q.1; omega))).symm, rfl⟩ (Nat.le_of_ble_eq_true rfl) (Nat.le_of_ble_eq_true rfl) dX5_isReached_21 hlocks)
    · skip
      refine z_iconst hx hb dX5_isReached_16 ?_
      refine lv_goto (tgt := 21) hx hb dX5_isReached_17 (by decide) ?_
      exact (ze_i (u' := (n, am, S)) (z := 1) hx hb hr (iZ_narz (by omega) (by omega)).1 hI (by omega) ⟨(zB_t (by first | exact ⟨by omega, c8⟩ | exact (fun q => c8 q.2) | exact (fun q => by have := q.1; omega))).symm, rfl⟩ (Nat.le_of_ble_eq_true rfl) (Nat.le_of_ble_eq_true rfl) dX5_isReached_21 hlocks)
set_option maxHeartbeats 4000000 in
set_option maxRecDepth 100000 in
theorem c_X5_canServe (l : Launch) (D : va_G) (cA : Nat → ClassId) (n : Nat → Nat) (am : ts_Am) (S : ts_St) (sz : Nat) (y t : Int) (hW : mW n S) (hy : 0 ≤ y ∧ y < 4) (ht : 0 ≤ t ∧ t < 40) : Met l yX5_canServe wsX5_canServe ({ frames := 0, cells := 0, slots := 0, locals := 0 } : Room) (va_Pc [.ref (am 0 0), .int (iZ y), .int (iZ t)] (zP TM D cA (n, am, S) sz)) (zQi TM D cA (n, am, S) sz (fun z u => z = zB (mServe S y.toNat t.toNat) ∧ u = (n, am, S))) 0 0 (ts_A (n, am, S) sz) := by
  refine zM_of (by decide) rfl (Nat.le_of_ble_eq_true rfl) ?_
  intro p e s m below meth c hx hb hr hts hown hlocks hml hname hK hsz H locs hI ls hl
  subst hsz
  have hown : s.vm.findClass RX5 = some m.cls := hown
  have hl : lv_has ls 3 [(0, .ref (am 0 0)), (1, .int (iZ y)), (2, .int (iZ t))] := hl
  have f23 := hts (.fieldLink RX5 23 "DockyardSlotsModel" "doorKinds" "[C") (by decide +kernel)
  have f27 := hts (.fieldLink RX5 27 "DockyardSlotsModel" "atDoors" "[I") (by decide +kernel)
  have f33 := hts (.fieldLink RX5 33 "DockyardSlotsModel" "kinds" "[C") (by decide +kernel)
  have LX5 : ∀ w ∈ wsX50, w.before [.ref (am 0 0), .int (iZ y), .int (iZ t)].toArray s = true := fun w h => hts w (List.mem_cons_of_mem _ (List.mem_append_left _ (List.mem_append_right _ h)))
  refine lv_aload_n hx hb dX5_canServe_0 rfl (lv_at hl 0 rfl) ?_
  refine zg_r (κ := 0) (i := 0) (k := 7) (t := 7) (j := 0) hx hb LX5 hown hK hI (hW.1 0 (by decide)) rfl rfl (by decide) rfl f27 (fun _ h9 => h9) dX5_canServe_1 (hW.rf 7 rfl) (fun v1 => ?_)
  refine lv_iload_n hx hb dX5_canServe_4 rfl (lv_at hl 1 rfl) ?_
  refine za_i (κ := 7) (i := 0) hx hb hK hI v1 rfl (by omega) (by omega) (by omega) dX5_canServe_5 rfl (fun b2 => ?_)
  refine z_if_ge (tgt := 39) hx hb dX5_canServe_6 (by decide) (by omega) (fun c3 => ?_) (fun c3 => ?_)
  · skip
    refine z_iconst hx hb dX5_canServe_39 ?_
    exact (ze_i (u' := (n, am, S)) (z := 0) hx hb hr (iZ_narz (by omega) (by omega)).1 hI (by omega) ⟨(zB_f (by omega)).symm, rfl⟩ (Nat.le_of_ble_eq_true rfl) (Nat.le_of_ble_eq_true rfl) dX5_canServe_40 hlocks)
  · skip
    refine lv_aload_n hx hb dX5_canServe_9 rfl (lv_at hl 0 rfl) ?_
    refine zg_r (κ := 0) (i := 0) (k := 6) (t := 6) (j := 0) hx hb LX5 hown hK hI (hW.1 0 (by decide)) rfl rfl (by decide) rfl f23 (fun _ h9 => h9) dX5_canServe_10 (hW.rf 6 rfl) (fun v4 => ?_)
    refine lv_iload_n hx hb dX5_canServe_13 rfl (lv_at hl 1 rfl) ?_
    refine za_c (κ := 6) (i := 0) hx hb hK hI v4 rfl (by omega) (by omega) (by omega) dX5_canServe_14 rfl (fun b5 => ?_)
    refine z_bipush hx hb dX5_canServe_15 (by decide) ?_
    refine z_icmp_eq (tgt := 35) hx hb dX5_canServe_17 (by decide) (by omega) (by omega) (fun c6 => ?_) (fun c6 => ?_)
    · skip
      refine z_iconst hx hb dX5_canServe_35 ?_
      refine lv_goto (tgt := 40) hx hb dX5_canServe_36 (by decide) ?_
      exact (ze_i (u' := (n, am, S)) (z := 1) hx hb hr (iZ_narz (by omega) (by omega)).1 hI (by omega) ⟨(zB_t (by omega)).symm, rfl⟩ (Nat.le_of_ble_eq_true rfl) (Nat.le_of_ble_eq_true rfl) dX5_canServe_40 hlocks)
    · skip
      refine lv_aload_n hx hb dX5_canServe_20 rfl (lv_at hl 0 rfl) ?_
      refine zg_r (κ := 0) (i := 0) (k := 6) (t := 6) (j := 0) hx hb LX5 hown hK hI (hW.1 0 (by decide)) rfl rfl (by decide) rfl f23 (fun _ h9 => h9) dX5_canServe_21 (hW.rf 6 rfl) (fun v7 => ?_)
      refine lv_iload_n hx hb dX5_canServe_24 rfl (lv_at hl 1 rfl) ?_
      refine za_c (κ := 6) (i := 0) hx hb hK hI v7 rfl (by omega) (by omega) (by omega) dX5_canServe_25 rfl (fun b8 => ?_)
      refine lv_aload_n hx hb dX5_canServe_26 rfl (lv_at hl 0 rfl) ?_
      refine zg_r (κ := 0) (i := 0) (k := 10) (t := 10) (j := 0) hx hb LX5 hown hK hI (hW.1 0 (by decide)) rfl rfl (by decide) rfl f33 (fun _ h9 => h9) dX5_canServe_27 (hW.rf 10 rfl) (fun v9 => ?_)
      refine lv_iload_n hx hb dX5_canServe_30 rfl (lv_at hl 2 rfl) ?_
      refine za_c (κ := 10) (i := 0) hx hb hK hI v9 rfl (by omega) (by omega) (by omega) dX5_canServe_31 rfl (fun b10 => ?_)
      refine z_icmp_ne (tgt := 39) hx hb dX5_canServe_32 (by decide) (by omega) (by omega) (fun c11 => ?_) (fun c11 => ?_)
      · skip
        refine z_iconst hx hb dX5_canServe_39 ?_
        exact (ze_i (u' := (n, am, S)) (z := 0) hx hb hr (iZ_narz (by omega) (by omega)).1 hI (by omega) ⟨(zB_f (by omega)).symm, rfl⟩ (Nat.le_of_ble_eq_true rfl) (Nat.le_of_ble_eq_true rfl) dX5_canServe_40 hlocks)
      · skip
        refine z_iconst hx hb dX5_canServe_35 ?_
        refine lv_goto (tgt := 40) hx hb dX5_canServe_36 (by decide) ?_
        exact (ze_i (u' := (n, am, S)) (z := 1) hx hb hr (iZ_narz (by omega) (by omega)).1 hI (by omega) ⟨(zB_t (by omega)).symm, rfl⟩ (Nat.le_of_ble_eq_true rfl) (Nat.le_of_ble_eq_true rfl) dX5_canServe_40 hlocks)
set_option maxHeartbeats 4000000 in
set_option maxRecDepth 100000 in
theorem c_X5_waits (l : Launch) (D : va_G) (cA : Nat → ClassId) (n : Nat → Nat) (am : ts_Am) (S : ts_St) (sz : Nat) (t : Int) (hW : mW n S) (ht : 0 ≤ t ∧ t < 40) : Met l yX5_waits wsX5_waits ({ frames := 0, cells := 0, slots := 0, locals := 0 } : Room) (va_Pc [.ref (am 0 0), .int (iZ t)] (zP TM D cA (n, am, S) sz)) (zQi TM D cA (n, am, S) sz (fun z u => z = mWait S t.toNat ∧ u = (n, am, S))) 0 0 (ts_A (n, am, S) sz) := by
  refine zM_of (by decide) rfl (Nat.le_of_ble_eq_true rfl) ?_
  intro p e s m below meth c hx hb hr hts hown hlocks hml hname hK hsz H locs hI ls hl
  subst hsz
  have hown : s.vm.findClass RX5 = some m.cls := hown
  have hl : lv_has ls 4 [(0, .ref (am 0 0)), (1, .int (iZ t))] := hl
  have f30 := hts (.fieldLink RX5 30 "DockyardSlotsModel" "hours" "[I") (by decide +kernel)
  have f39 := hts (.fieldLink RX5 39 "DockyardSlotsModel" "states" "[C") (by decide +kernel)
  have f42 := hts (.fieldLink RX5 42 "DockyardSlotsModel" "arrivals" "[I") (by decide +kernel)
  have f45 := hts (.fieldLink RX5 45 "DockyardSlotsModel" "docked" "[I") (by decide +kernel)
  have f87 := hts (.fieldLink RX5 87 "DockyardSlotsModel" "time" "I") (by decide +kernel)
  have LX5 : ∀ w ∈ wsX50, w.before [.ref (am 0 0), .int (iZ t)].toArray s = true := fun w h => hts w (List.mem_cons_of_mem _ (List.mem_append_left _ (List.mem_append_right _ h)))
  refine lv_aload_n hx hb dX5_waits_0 rfl (lv_at hl 0 rfl) ?_
  refine zg_r (κ := 0) (i := 0) (k := 13) (t := 13) (j := 0) hx hb LX5 hown hK hI (hW.1 0 (by decide)) rfl rfl (by decide) rfl f42 (fun _ h9 => h9) dX5_waits_1 (hW.rf 13 rfl) (fun v1 => ?_)
  refine lv_iload_n hx hb dX5_waits_4 rfl (lv_at hl 1 rfl) ?_
  refine za_i (κ := 13) (i := 0) hx hb hK hI v1 rfl (by omega) (by omega) (by omega) dX5_waits_5 rfl (fun b2 => ?_)
  refine lv_aload_n hx hb dX5_waits_6 rfl (lv_at hl 0 rfl) ?_
  refine zg_r (κ := 0) (i := 0) (k := 9) (t := 9) (j := 0) hx hb LX5 hown hK hI (hW.1 0 (by decide)) rfl rfl (by decide) rfl f30 (fun _ h9 => h9) dX5_waits_7 (hW.rf 9 rfl) (fun v3 => ?_)
  refine lv_iload_n hx hb dX5_waits_10 rfl (lv_at hl 1 rfl) ?_
  refine za_i (κ := 9) (i := 0) hx hb hK hI v3 rfl (by omega) (by omega) (by omega) dX5_waits_11 rfl (fun b4 => ?_)
  refine z_icmp_le (tgt := 24) hx hb dX5_waits_12 (by decide) (by omega) (by omega) (fun c5 => ?_) (fun c5 => ?_)
  · skip
    refine lv_aload_n hx hb dX5_waits_24 rfl (lv_at hl 0 rfl) ?_
    refine zg_r (κ := 0) (i := 0) (k := 9) (t := 9) (j := 0) hx hb LX5 hown hK hI (hW.1 0 (by decide)) rfl rfl (by decide) rfl f30 (fun _ h9 => h9) dX5_waits_25 (hW.rf 9 rfl) (fun v6 => ?_)
    refine lv_iload_n hx hb dX5_waits_28 rfl (lv_at hl 1 rfl) ?_
    refine za_i (κ := 9) (i := 0) hx hb hK hI v6 rfl (by omega) (by omega) (by omega) dX5_waits_29 rfl (fun b7 => ?_)
    refine lv_istore_n (lv' := [(2, .int (iZ (S 9 0 t.toNat))), (0, .ref (am 0 0)), (1, .int (iZ t))]) hx hb dX5_waits_30 rfl hl (by decide) rfl (fun ls hl => ?_)
    refine lv_aload_n hx hb dX5_waits_31 rfl (lv_at hl 1 rfl) ?_
    refine zg_r (κ := 0) (i := 0) (k := 12) (t := 12) (j := 0) hx hb LX5 hown hK hI (hW.1 0 (by decide)) rfl rfl (by decide) rfl f39 (fun _ h9 => h9) dX5_waits_32 (hW.rf 12 rfl) (fun v8 => ?_)
    refine lv_iload_n hx hb dX5_waits_35 rfl (lv_at hl 2 rfl) ?_
    refine za_c (κ := 12) (i := 0) hx hb hK hI v8 rfl (by omega) (by omega) (by omega) dX5_waits_36 rfl (fun b9 => ?_)
    refine z_bipush hx hb dX5_waits_37 (by decide) ?_
    refine z_icmp_ne (tgt := 49) hx hb dX5_waits_39 (by decide) (by omega) (by omega) (fun c10 => ?_) (fun c10 => ?_)
    · skip
      refine lv_aload_n hx hb dX5_waits_49 rfl (lv_at hl 1 rfl) ?_
      refine zg_r (κ := 0) (i := 0) (k := 14) (t := 14) (j := 0) hx hb LX5 hown hK hI (hW.1 0 (by decide)) rfl rfl (by decide) rfl f45 (fun _ h9 => h9) dX5_waits_50 (hW.rf 14 rfl) (fun v11 => ?_)
      refine lv_iload_n hx hb dX5_waits_53 rfl (lv_at hl 2 rfl) ?_
      refine za_i (κ := 14) (i := 0) hx hb hK hI v11 rfl (by omega) (by omega) (by omega) dX5_waits_54 rfl (fun b12 => ?_)
      refine lv_istore_n (lv' := [(3, .int (iZ (S 14 0 t.toNat))), (2, .int (iZ (S 9 0 t.toNat))), (0, .ref (am 0 0)), (1, .int (iZ t))]) hx hb dX5_waits_55 rfl hl (by decide) rfl (fun ls hl => ?_)
      refine lv_iload_n hx hb dX5_waits_56 rfl (lv_at hl 0 rfl) ?_
      refine lv_iload_n hx hb dX5_waits_57 rfl (lv_at hl 1 rfl) ?_
      refine z_icmp_le (tgt := 67) hx hb dX5_waits_58 (by decide) (by omega) (by omega) (fun c13 => ?_) (fun c13 => ?_)
      · skip
        refine z_iconst hx hb dX5_waits_67 ?_
        exact (ze_i (u' := (n, am, S)) (z := 0) hx hb hr rfl hI (by omega) ⟨by unfold mWait; (first | rw [if_pos (by omega)] | rw [if_neg (by omega)]); omega, rfl⟩ (Nat.le_of_ble_eq_true rfl) (Nat.le_of_ble_eq_true rfl) dX5_waits_68 hlocks)
      · skip
        refine lv_iload_n hx hb dX5_waits_61 rfl (lv_at hl 0 rfl) ?_
        refine lv_iload_n hx hb dX5_waits_62 rfl (lv_at hl 1 rfl) ?_
        refine z_isub hx hb dX5_waits_63 ?_
        refine lv_goto (tgt := 68) hx hb dX5_waits_64 (by decide) ?_
        exact (ze_i (u' := (n, am, S)) (z := (S 14 0 t.toNat - S 9 0 t.toNat)) hx hb hr rfl hI (by omega) ⟨by unfold mWait; (first | rw [if_pos (by omega)] | rw [if_neg (by omega)]); omega, rfl⟩ (Nat.le_of_ble_eq_true rfl) (Nat.le_of_ble_eq_true rfl) dX5_waits_68 hlocks)
    · skip
      refine lv_aload_n hx hb dX5_waits_42 rfl (lv_at hl 1 rfl) ?_
      refine zg_i (κ := 0) (i := 0) (k := 21) hx hb LX5 hown hK hI (hW.1 0 (by decide)) rfl rfl (by decide) rfl f87 (fun _ h9 => h9) dX5_waits_43 rfl (fun b14 => ?_)
      refine lv_goto (tgt := 55) hx hb dX5_waits_46 (by decide) ?_
      refine lv_istore_n (lv' := [(3, .int (iZ (S 0 0 21))), (2, .int (iZ (S 9 0 t.toNat))), (0, .ref (am 0 0)), (1, .int (iZ t))]) hx hb dX5_waits_55 rfl hl (by decide) rfl (fun ls hl => ?_)
      refine lv_iload_n hx hb dX5_waits_56 rfl (lv_at hl 0 rfl) ?_
      refine lv_iload_n hx hb dX5_waits_57 rfl (lv_at hl 1 rfl) ?_
      refine z_icmp_le (tgt := 67) hx hb dX5_waits_58 (by decide) (by omega) (by omega) (fun c15 => ?_) (fun c15 => ?_)
      · skip
        refine z_iconst hx hb dX5_waits_67 ?_
        exact (ze_i (u' := (n, am, S)) (z := 0) hx hb hr rfl hI (by omega) ⟨by unfold mWait; (first | rw [if_pos (by omega)] | rw [if_neg (by omega)]); omega, rfl⟩ (Nat.le_of_ble_eq_true rfl) (Nat.le_of_ble_eq_true rfl) dX5_waits_68 hlocks)
      · skip
        refine lv_iload_n hx hb dX5_waits_61 rfl (lv_at hl 0 rfl) ?_
        refine lv_iload_n hx hb dX5_waits_62 rfl (lv_at hl 1 rfl) ?_
        refine z_isub hx hb dX5_waits_63 ?_
        refine lv_goto (tgt := 68) hx hb dX5_waits_64 (by decide) ?_
        exact (ze_i (u' := (n, am, S)) (z := (S 0 0 21 - S 9 0 t.toNat)) hx hb hr rfl hI (by omega) ⟨by unfold mWait; (first | rw [if_pos (by omega)] | rw [if_neg (by omega)]); omega, rfl⟩ (Nat.le_of_ble_eq_true rfl) (Nat.le_of_ble_eq_true rfl) dX5_waits_68 hlocks)
  · skip
    refine lv_aload_n hx hb dX5_waits_15 rfl (lv_at hl 0 rfl) ?_
    refine zg_r (κ := 0) (i := 0) (k := 13) (t := 13) (j := 0) hx hb LX5 hown hK hI (hW.1 0 (by decide)) rfl rfl (by decide) rfl f42 (fun _ h9 => h9) dX5_waits_16 (hW.rf 13 rfl) (fun v16 => ?_)
    refine lv_iload_n hx hb dX5_waits_19 rfl (lv_at hl 1 rfl) ?_
    refine za_i (κ := 13) (i := 0) hx hb hK hI v16 rfl (by omega) (by omega) (by omega) dX5_waits_20 rfl (fun b17 => ?_)
    refine lv_goto (tgt := 30) hx hb dX5_waits_21 (by decide) ?_
    refine lv_istore_n (lv' := [(2, .int (iZ (S 13 0 t.toNat))), (0, .ref (am 0 0)), (1, .int (iZ t))]) hx hb dX5_waits_30 rfl hl (by decide) rfl (fun ls hl => ?_)
    refine lv_aload_n hx hb dX5_waits_31 rfl (lv_at hl 1 rfl) ?_
    refine zg_r (κ := 0) (i := 0) (k := 12) (t := 12) (j := 0) hx hb LX5 hown hK hI (hW.1 0 (by decide)) rfl rfl (by decide) rfl f39 (fun _ h9 => h9) dX5_waits_32 (hW.rf 12 rfl) (fun v18 => ?_)
    refine lv_iload_n hx hb dX5_waits_35 rfl (lv_at hl 2 rfl) ?_
    refine za_c (κ := 12) (i := 0) hx hb hK hI v18 rfl (by omega) (by omega) (by omega) dX5_waits_36 rfl (fun b19 => ?_)
    refine z_bipush hx hb dX5_waits_37 (by decide) ?_
    refine z_icmp_ne (tgt := 49) hx hb dX5_waits_39 (by decide) (by omega) (by omega) (fun c20 => ?_) (fun c20 => ?_)
    · skip
      refine lv_aload_n hx hb dX5_waits_49 rfl (lv_at hl 1 rfl) ?_
      refine zg_r (κ := 0) (i := 0) (k := 14) (t := 14) (j := 0) hx hb LX5 hown hK hI (hW.1 0 (by decide)) rfl rfl (by decide) rfl f45 (fun _ h9 => h9) dX5_waits_50 (hW.rf 14 rfl) (fun v21 => ?_)
      refine lv_iload_n hx hb dX5_waits_53 rfl (lv_at hl 2 rfl) ?_
      refine za_i (κ := 14) (i := 0) hx hb hK hI v21 rfl (by omega) (by omega) (by omega) dX5_waits_54 rfl (fun b22 => ?_)
      refine lv_istore_n (lv' := [(3, .int (iZ (S 14 0 t.toNat))), (2, .int (iZ (S 13 0 t.toNat))), (0, .ref (am 0 0)), (1, .int (iZ t))]) hx hb dX5_waits_55 rfl hl (by decide) rfl (fun ls hl => ?_)
      refine lv_iload_n hx hb dX5_waits_56 rfl (lv_at hl 0 rfl) ?_
      refine lv_iload_n hx hb dX5_waits_57 rfl (lv_at hl 1 rfl) ?_
      refine z_icmp_le (tgt := 67) hx hb dX5_waits_58 (by decide) (by omega) (by omega) (fun c23 => ?_) (fun c23 => ?_)
      · skip
        refine z_iconst hx hb dX5_waits_67 ?_
        exact (ze_i (u' := (n, am, S)) (z := 0) hx hb hr rfl hI (by omega) ⟨by unfold mWait; (first | rw [if_pos (by omega)] | rw [if_neg (by omega)]); omega, rfl⟩ (Nat.le_of_ble_eq_true rfl) (Nat.le_of_ble_eq_true rfl) dX5_waits_68 hlocks)
      · skip
        refine lv_iload_n hx hb dX5_waits_61 rfl (lv_at hl 0 rfl) ?_
        refine lv_iload_n hx hb dX5_waits_62 rfl (lv_at hl 1 rfl) ?_
        refine z_isub hx hb dX5_waits_63 ?_
        refine lv_goto (tgt := 68) hx hb dX5_waits_64 (by decide) ?_
        exact (ze_i (u' := (n, am, S)) (z := (S 14 0 t.toNat - S 13 0 t.toNat)) hx hb hr rfl hI (by omega) ⟨by unfold mWait; (first | rw [if_pos (by omega)] | rw [if_neg (by omega)]); omega, rfl⟩ (Nat.le_of_ble_eq_true rfl) (Nat.le_of_ble_eq_true rfl) dX5_waits_68 hlocks)
    · skip
      refine lv_aload_n hx hb dX5_waits_42 rfl (lv_at hl 1 rfl) ?_
      refine zg_i (κ := 0) (i := 0) (k := 21) hx hb LX5 hown hK hI (hW.1 0 (by decide)) rfl rfl (by decide) rfl f87 (fun _ h9 => h9) dX5_waits_43 rfl (fun b24 => ?_)
      refine lv_goto (tgt := 55) hx hb dX5_waits_46 (by decide) ?_
      refine lv_istore_n (lv' := [(3, .int (iZ (S 0 0 21))), (2, .int (iZ (S 13 0 t.toNat))), (0, .ref (am 0 0)), (1, .int (iZ t))]) hx hb dX5_waits_55 rfl hl (by decide) rfl (fun ls hl => ?_)
      refine lv_iload_n hx hb dX5_waits_56 rfl (lv_at hl 0 rfl) ?_
      refine lv_iload_n hx hb dX5_waits_57 rfl (lv_at hl 1 rfl) ?_
      refine z_icmp_le (tgt := 67) hx hb dX5_waits_58 (by decide) (by omega) (by omega) (fun c25 => ?_) (fun c25 => ?_)
      · skip
        refine z_iconst hx hb dX5_waits_67 ?_
        exact (ze_i (u' := (n, am, S)) (z := 0) hx hb hr rfl hI (by omega) ⟨by unfold mWait; (first | rw [if_pos (by omega)] | rw [if_neg (by omega)]); omega, rfl⟩ (Nat.le_of_ble_eq_true rfl) (Nat.le_of_ble_eq_true rfl) dX5_waits_68 hlocks)
      · skip
        refine lv_iload_n hx hb dX5_waits_61 rfl (lv_at hl 0 rfl) ?_
        refine lv_iload_n hx hb dX5_waits_62 rfl (lv_at hl 1 rfl) ?_
        refine z_isub hx hb dX5_waits_63 ?_
        refine lv_goto (tgt := 68) hx hb dX5_waits_64 (by decide) ?_
        exact (ze_i (u' := (n, am, S)) (z := (S 0 0 21 - S 13 0 t.toNat)) hx hb hr rfl hI (by omega) ⟨by unfold mWait; (first | rw [if_pos (by omega)] | rw [if_neg (by omega)]); omega, rfl⟩ (Nat.le_of_ble_eq_true rfl) (Nat.le_of_ble_eq_true rfl) dX5_waits_68 hlocks)
