/-! The model's calls. -/
/-- the numbers' ranges -/
def mR (S : ts_St) : Prop := ((0 ≤ S 0 0 0 ∧ S 0 0 0 ≤ 4) ∧ (0 ≤ S 0 0 5 ∧ S 0 0 5 ≤ 4) ∧ (0 ≤ S 0 0 8 ∧ S 0 0 8 ≤ 40) ∧ (0 ≤ S 0 0 16 ∧ S 0 0 16 ≤ 9) ∧ (0 ≤ S 0 0 17 ∧ S 0 0 17 ≤ 24) ∧ (0 ≤ S 0 0 18 ∧ S 0 0 18 ≤ 99) ∧ (0 ≤ S 0 0 19 ∧ S 0 0 19 ≤ 24) ∧ (0 ≤ S 0 0 20 ∧ S 0 0 20 ≤ 99) ∧ (0 ≤ S 0 0 21 ∧ S 0 0 21 ≤ 100000) ∧ (0 ≤ S 0 0 22 ∧ S 0 0 22 ≤ 100000))
  ∧ (∀ l : Nat, 0 ≤ S 3 0 l ∧ S 3 0 l ≤ 3)
  ∧ (∀ t : Nat, (0 ≤ S 9 0 t ∧ S 9 0 t ≤ 999) ∧ (0 ≤ S 13 0 t ∧ S 13 0 t ≤ 100000) ∧ (0 ≤ S 14 0 t ∧ S 14 0 t ≤ 100000) ∧ (0 ≤ S 11 0 t ∧ S 11 0 t ≤ 9) ∧ (0 ≤ S 12 0 t ∧ S 12 0 t < 65536) ∧ (0 ≤ S 10 0 t ∧ S 10 0 t < 65536) ∧ (0 ≤ S 15 0 t ∧ S 15 0 t ≤ 3))
  ∧ ∀ l : Nat, 0 ≤ S 1 0 l ∧ S 1 0 l ≤ 3
theorem mWait_R {S : ts_St} (h : mR S) (t : Nat) : 0 ≤ mWait S t ∧ mWait S t ≤ 100000 := by
  have h1 := h.1
  have h2 := h.2.2.1 t
  unfold mWait
  split <;> omega
theorem up3_rng {S : ts_St} {κ i k a b c : Nat} {v L N : Int} (h : L ≤ S a b c ∧ S a b c ≤ N) (hv : a = κ → c = k → L ≤ v ∧ v ≤ N) : L ≤ up3 S κ i k v a b c ∧ up3 S κ i k v a b c ≤ N := by
  unfold up3
  split
  · rename_i q
    exact hv q.1 q.2.2
  · exact h
theorem up3_rng2 {S : ts_St} {κ i k a b c : Nat} {v L N : Int} (h : L ≤ S a b c ∧ S a b c < N) (hv : a = κ → c = k → L ≤ v ∧ v < N) : L ≤ up3 S κ i k v a b c ∧ up3 S κ i k v a b c < N := by
  unfold up3
  split
  · rename_i q
    exact hv q.1 q.2.2
  · exact h
/-- what may be put where -/
def mRv (κ k : Nat) (v : Int) : Prop := (κ = 0 → (k = 0 → 0 ≤ v ∧ v ≤ 4) ∧ (k = 5 → 0 ≤ v ∧ v ≤ 4) ∧ (k = 8 → 0 ≤ v ∧ v ≤ 40) ∧ (k = 16 → 0 ≤ v ∧ v ≤ 9) ∧ (k = 17 → 0 ≤ v ∧ v ≤ 24) ∧ (k = 18 → 0 ≤ v ∧ v ≤ 99) ∧ (k = 19 → 0 ≤ v ∧ v ≤ 24) ∧ (k = 20 → 0 ≤ v ∧ v ≤ 99) ∧ (k = 21 → 0 ≤ v ∧ v ≤ 100000) ∧ (k = 22 → 0 ≤ v ∧ v ≤ 100000)) ∧ (κ = 3 → 0 ≤ v ∧ v ≤ 3) ∧ (κ = 9 → 0 ≤ v ∧ v ≤ 999) ∧ (κ = 13 → 0 ≤ v ∧ v ≤ 100000) ∧ (κ = 14 → 0 ≤ v ∧ v ≤ 100000) ∧ (κ = 11 → 0 ≤ v ∧ v ≤ 9) ∧ (κ = 12 → 0 ≤ v ∧ v < 65536) ∧ (κ = 10 → 0 ≤ v ∧ v < 65536) ∧ (κ = 15 → 0 ≤ v ∧ v ≤ 3) ∧ (κ = 1 → 0 ≤ v ∧ v ≤ 3)
theorem mR.put {S : ts_St} {κ i k : Nat} {v : Int} (h : mR S) (hv : mRv κ k v) : mR (up3 S κ i k v) := by
  obtain ⟨v0, v3, v9, v13, v14, v11, v12, v10, v15, v1⟩ := hv
  obtain ⟨⟨s0, s5, s8, s16, s17, s18, s19, s20, s21, s22⟩, c3, ct, c1⟩ := h
  refine ⟨⟨up3_rng s0 (fun a b => (v0 a.symm).1 b.symm), up3_rng s5 (fun a b => (v0 a.symm).2.1 b.symm), up3_rng s8 (fun a b => (v0 a.symm).2.2.1 b.symm), up3_rng s16 (fun a b => (v0 a.symm).2.2.2.1 b.symm), up3_rng s17 (fun a b => (v0 a.symm).2.2.2.2.1 b.symm), up3_rng s18 (fun a b => (v0 a.symm).2.2.2.2.2.1 b.symm), up3_rng s19 (fun a b => (v0 a.symm).2.2.2.2.2.2.1 b.symm), up3_rng s20 (fun a b => (v0 a.symm).2.2.2.2.2.2.2.1 b.symm), up3_rng s21 (fun a b => (v0 a.symm).2.2.2.2.2.2.2.2.1 b.symm), up3_rng s22 (fun a b => (v0 a.symm).2.2.2.2.2.2.2.2.2 b.symm)⟩, fun l => up3_rng (c3 l) (fun a _ => v3 a.symm), fun t => ?_, fun l => up3_rng (c1 l) (fun a _ => v1 a.symm)⟩
  obtain ⟨t9, t13, t14, t11, t12, t10, t15⟩ := ct t
  exact ⟨up3_rng t9 (fun a _ => v9 a.symm), up3_rng t13 (fun a _ => v13 a.symm), up3_rng t14 (fun a _ => v14 a.symm), up3_rng t11 (fun a _ => v11 a.symm), up3_rng2 t12 (fun a _ => v12 a.symm), up3_rng2 t10 (fun a _ => v10 a.symm), up3_rng t15 (fun a _ => v15 a.symm)⟩
theorem mPunc_R (S : ts_St) (t : Nat) : 101 ≤ mPunc S t ∧ mPunc S t ≤ 111 := by
  unfold mPunc
  split
  · omega
  · split <;> omega
theorem mCost_R {S : ts_St} (h : mR S) (t : Nat) : 0 ≤ mCost S t ∧ mCost S t ≤ 20000000 := by
  have h1 := h.1
  have h2 := mWait_R h t
  unfold mCost
  split
  · omega
  · split
    · have := mul_R (a := mWait S t - S 0 0 17) (b := S 0 0 18) (A := 100000) (B := 99) (by omega) (by omega) (by omega) (by omega)
      omega
    · have e1 := mul_R (a := S 0 0 19) (b := S 0 0 18) (A := 24) (B := 99) (by omega) (by omega) (by omega) (by omega)
      have e2 := mul_R (a := mWait S t - S 0 0 17 - S 0 0 19) (b := S 0 0 20) (A := 100000) (B := 99) (by omega) (by omega) (by omega) (by omega)
      omega
/-- the code that a call leaves -/
abbrev m0 (S : ts_St) (k : Int) : ts_St := up3 S 0 0 24 k
def kAddLane (S : ts_St) (c : Int) : Int := if ¬ (1 ≤ c ∧ c ≤ 3) then 1 else if S 0 0 0 = 4 then 2 else 0
def kAddDoor (S : ts_St) (c : Int) : Int := if ¬ c = 100 ∧ ¬ c = 99 ∧ ¬ c = 98 then 1 else if S 0 0 5 = 4 then 2 else 0
def kSetTol (c : Int) : Int := if 0 ≤ c ∧ c ≤ 9 then 0 else 1
def kSetChg (a b c d : Int) : Int := if (0 ≤ a ∧ a ≤ 24) ∧ (0 ≤ b ∧ b ≤ 99) ∧ (0 ≤ c ∧ c ≤ 24) ∧ 0 ≤ d ∧ d ≤ 99 then 0 else 1
def kBook (S : ts_St) (a b c : Int) : Int := if ¬ (S 0 0 21 ≤ a ∧ a ≤ 999) ∨ (¬ b = 100 ∧ ¬ b = 99) ∨ ¬ (1 ≤ c ∧ c ≤ 9) then 1 else if S 0 0 8 = 40 then 2 else 0
def kArrive (S : ts_St) (t y : Int) : Int := if ¬ (0 ≤ t ∧ t < S 0 0 8) then 1 else if ¬ (0 ≤ y ∧ y < S 0 0 0) then 2 else if ¬ S 12 0 t.toNat = 98 ∨ mSum S (S 0 0 0).toNat = 6 then 3 else if mCome S t.toNat y.toNat then 0 else 4
def kNone (S : ts_St) (t : Int) : Int := if ¬ (0 ≤ t ∧ t < S 0 0 8) then 1 else 0
def kNotCome (S : ts_St) (t : Int) : Int := if ¬ (0 ≤ t ∧ t < S 0 0 8) then 1 else if S 12 0 t.toNat = 98 ∨ S 12 0 t.toNat = 110 then 2 else 0
def kShift (S : ts_St) (t y : Int) : Int := if ¬ (0 ≤ t ∧ t < S 0 0 8) then 1 else if ¬ (0 ≤ y ∧ y < S 0 0 0) then 2 else if ¬ mReach S t then 3 else if mSlot S t / 3 = y ∨ ¬ mCome S t.toNat y.toNat then 4 else 0
def kDock (S : ts_St) (t d : Int) : Int := if ¬ (0 ≤ t ∧ t < S 0 0 8) then 1 else if ¬ (0 ≤ d ∧ d < S 0 0 5) then 2 else if ¬ mReach S t then 3 else if mServe S d.toNat t.toNat then 0 else 4
def kLeave (S : ts_St) (t : Int) : Int := if ¬ (0 ≤ t ∧ t < S 0 0 8) then 1 else if ¬ S 12 0 t.toNat = 119 then 2 else if S 0 0 21 < S 14 0 t.toNat + S 11 0 t.toNat then 3 else 0
def kElse (S : ts_St) (t : Int) : Int := if ¬ (0 ≤ t ∧ t < S 0 0 8) then 1 else if ¬ S 12 0 t.toNat = 121 then 2 else 0
def kTrailer (S : ts_St) (y x : Int) : Int := if ¬ (0 ≤ y ∧ y < S 0 0 0) then 1 else if 0 ≤ x ∧ x < S 3 0 y.toNat then 0 else 2
def gAddLane (S : ts_St) (c p : Int) : ts_St := up3 (up3 (up3 (m0 S 0) 1 0 (S 0 0 0).toNat c) 2 0 (S 0 0 0).toNat p) 0 0 0 (S 0 0 0 + 1)
def gAddDoor (S : ts_St) (c : Int) : ts_St := up3 (up3 (up3 (m0 S 0) 6 0 (S 0 0 5).toNat c) 7 0 (S 0 0 5).toNat (-1)) 0 0 5 (S 0 0 5 + 1)
def gSetTol (S : ts_St) (c : Int) : ts_St := up3 (m0 S 0) 0 0 16 c
def gSetChg (S : ts_St) (a b c d : Int) : ts_St := up3 (up3 (up3 (up3 (m0 S 0) 0 0 17 a) 0 0 18 b) 0 0 19 c) 0 0 20 d
def gBook (S : ts_St) (a b c : Int) : ts_St := up3 (up3 (up3 (up3 (up3 (m0 S 0) 9 0 (S 0 0 8).toNat a) 10 0 (S 0 0 8).toNat b) 11 0 (S 0 0 8).toNat c) 12 0 (S 0 0 8).toNat 98) 0 0 8 (S 0 0 8 + 1)
def gArrive (S : ts_St) (t y : Int) : ts_St := mComes (up3 (up3 (m0 S 0) 12 0 t.toNat 121) 13 0 t.toNat (S 0 0 21)) t y
theorem mSlot_m0 (S : ts_St) (k t : Int) : mSlot (m0 S k) t = mSlot S t := by
  have e3 : m0 S k 3 = S 3 := by funext a b; simp [m0, up3]
  have e4 : m0 S k 4 = S 4 := by funext a b; simp [m0, up3]
  have e0 : m0 S k 0 0 0 = S 0 0 0 := by simp [m0, up3]
  have hK : ∀ y j, mFindK (m0 S k) t y j = mFindK S t y j := by
    intro y j
    induction j with
    | zero => rfl
    | succ j ih => simp only [mFindK, ih, e4]
  have hF : ∀ y, mFind (m0 S k) t y = mFind S t y := by
    intro y
    induction y with
    | zero => rfl
    | succ y ih => simp only [mFind, ih, hK, e3]
  unfold mSlot
  rw [hF, e0]
def gShift (S : ts_St) (t y : Int) : ts_St := up3 (mComes (up3 (m0 S 0) 3 0 (mSlot S t / 3).toNat (S 3 0 (mSlot S t / 3).toNat - 1)) t y) 0 0 22 (S 0 0 22 + 1)
def gDock (S : ts_St) (t d : Int) : ts_St := up3 (up3 (up3 (up3 (up3 (up3 (m0 S 0) 3 0 (mSlot S t / 3).toNat (S 3 0 (mSlot S t / 3).toNat - 1)) 7 0 d.toNat t) 15 0 t.toNat d) 14 0 t.toNat (S 0 0 21)) 12 0 t.toNat 119) 0 0 22 (S 0 0 22 + 1)
def gLeave0 (S : ts_St) (t : Int) : ts_St := up3 (up3 (m0 S 0) 12 0 t.toNat 103) 7 0 (S 15 0 t.toNat).toNat (-1)
theorem gLeave0_R {S : ts_St} (h : mR S) (t : Int) : mR (gLeave0 S t) := by
  refine ((h.put (κ := 0) (i := 0) (k := 24) (v := 0) ?_).put (κ := 12) (i := 0) (k := t.toNat) (v := 103) ?_).put (κ := 7) (i := 0) (k := (S 15 0 t.toNat).toNat) (v := -1) ?_ <;> (unfold mRv; omega)
def mNext (S : ts_St) : Nat → Int
  | 0 => -1
  | k + 1 => if S 12 0 k = 98 ∧ (mNext S k < 0 ∨ S 9 0 k < S 9 0 (mNext S k).toNat) then (k : Int) else mNext S k
theorem mNext_s {S : ts_St} {y : Int} (h : 0 ≤ y) : mNext S (y + 1).toNat = if S 12 0 y.toNat = 98 ∧ (mNext S y.toNat < 0 ∨ S 9 0 y.toNat < S 9 0 (mNext S y.toNat).toNat) then y else mNext S y.toNat := by
  obtain ⟨k, rfl⟩ := Int.eq_ofNat_of_zero_le h
  rfl
def mFree (S : ts_St) (t : Nat) : Nat → Int
  | 0 => -1
  | k + 1 => if 0 ≤ mFree S t k then mFree S t k else if mServe S k t then (k : Int) else -1
theorem mFree_up {S : ts_St} {t k : Nat} {v : Int} (h0 : 0 ≤ v) (h : mFree S t k = v) : ∀ j, mFree S t (k + j) = v
  | 0 => h
  | j + 1 => by
    have h1 := mFree_up h0 h j
    show (if 0 ≤ mFree S t (k + j) then mFree S t (k + j) else _) = v
    rw [if_pos (by omega), h1]
theorem mFree_n {S : ts_St} {t : Nat} {y : Int} (hy : 0 ≤ y) (h : mFree S t y.toNat = -1) (h2 : ¬ mServe S y.toNat t) : mFree S t (y + 1).toNat = -1 := by
  rw [show (y + 1).toNat = y.toNat + 1 by omega]
  show (if 0 ≤ mFree S t y.toNat then _ else _) = _
  rw [if_neg (by omega), if_neg h2]
theorem mFree_hit {S : ts_St} {t : Nat} {y D : Int} (hy : 0 ≤ y) (hD : y < D) (h : mFree S t y.toNat = -1) (h2 : mServe S y.toNat t) : mFree S t D.toNat = y := by
  have e : mFree S t (y.toNat + 1) = y := by
    show (if 0 ≤ mFree S t y.toNat then _ else if mServe S y.toNat t then (y.toNat : Int) else -1) = _
    rw [if_neg (by omega), if_pos h2]
    omega
  have e2 := mFree_up hy e (D.toNat - (y.toNat + 1))
  rw [show y.toNat + 1 + (D.toNat - (y.toNat + 1)) = D.toNat by omega] at e2
  exact e2
theorem mFree_m0 (S : ts_St) (c : Int) (t k : Nat) : mFree (m0 S c) t k = mFree S t k := by
  have e7 : m0 S c 7 = S 7 := by funext a b; simp [m0, up3]
  have e6 : m0 S c 6 = S 6 := by funext a b; simp [m0, up3]
  have e10 : m0 S c 10 = S 10 := by funext a b; simp [m0, up3]
  induction k with
  | zero => rfl
  | succ k ih => simp only [mFree, ih, mServe, e7, e6, e10]
def kFree (S : ts_St) (t : Int) : Int := if ¬ (0 ≤ t ∧ t < S 0 0 8) then 1 else if mFree S t.toNat (S 0 0 5).toNat < 0 then 2 else 0
theorem up3_up3 (S : ts_St) (κ i k : Nat) (a b : Int) : up3 (up3 S κ i k a) κ i k b = up3 S κ i k b := by
  funext x y z
  unfold up3
  split <;> rfl
def gLeave (S : ts_St) (t : Int) : ts_St := up3 (gLeave0 S t) 0 0 23 (S 0 0 23 + mCost (gLeave0 S t) t.toNat)
theorem kNotCome_0 (S : ts_St) (t : Int) : 0 ≤ kNotCome S t ∧ kNotCome S t ≤ 2 := by
  unfold kNotCome
  split
  · omega
  · split <;> omega
theorem kElse_0 (S : ts_St) (t : Int) : 0 ≤ kElse S t ∧ kElse S t ≤ 2 := by
  unfold kElse
  split
  · omega
  · split <;> omega
theorem kNotCome_in {S : ts_St} {t : Int} (h : kNotCome S t = 0) : 0 ≤ t ∧ t < S 0 0 8 := by
  unfold kNotCome at h
  split at h
  · omega
  · omega
theorem kElse_in {S : ts_St} {t : Int} (h : kElse S t = 0) : (0 ≤ t ∧ t < S 0 0 8) ∧ S 12 0 t.toNat = 121 := by
  unfold kElse at h
  split at h
  · omega
  · split at h <;> omega
theorem mAhead_m0 (S : ts_St) (k t : Int) : mAhead (m0 S k) t = mAhead S t := by
  unfold mAhead
  rw [mSlot_m0]
  rfl
theorem mNext_R (S : ts_St) (k : Nat) : -1 ≤ mNext S k ∧ mNext S k < (k : Int) := by
  induction k with
  | zero => exact ⟨Int.le_refl _, show (-1 : Int) < 0 by decide⟩
  | succ k ih =>
    show -1 ≤ (if S 12 0 k = 98 ∧ (mNext S k < 0 ∨ S 9 0 k < S 9 0 (mNext S k).toNat) then (k : Int) else mNext S k) ∧ (if S 12 0 k = 98 ∧ (mNext S k < 0 ∨ S 9 0 k < S 9 0 (mNext S k).toNat) then (k : Int) else mNext S k) < ((k + 1 : Nat) : Int)
    split <;> omega
def kNext (S : ts_St) : Int := if mNext S (S 0 0 8).toNat < 0 then 1 else 0

set_option maxHeartbeats 4000000 in
set_option maxRecDepth 100000 in
theorem c_X5_costs (l : Launch) (D : va_G) (cA : Nat → ClassId) (n : Nat → Nat) (am : ts_Am) (S : ts_St) (sz : Nat) (t : Int) (hW : mW n S) (ht : 0 ≤ t ∧ t < 40) (hR : mR S) : Met l yX5_costs wsX5_costs ({ frames := 1, cells := 0, slots := 0, locals := 23 } : Room) (va_Pc [.ref (am 0 0), .int (iZ t)] (zP TM D cA (n, am, S) sz)) (zQi TM D cA (n, am, S) sz (fun z u => z = mCost S t.toNat ∧ u = (n, am, S))) 0 0 (ts_A (n, am, S) sz) := by
  refine zM_of (by decide) rfl (Nat.le_of_ble_eq_true rfl) ?_
  intro p e s m below meth c hx hb hr hts hown hlocks hml hname hK hsz H locs hI ls hl
  subst hsz
  have hown : s.vm.findClass RX5 = some m.cls := hown
  have hl : lv_has ls 3 [(0, .ref (am 0 0)), (1, .int (iZ t))] := hl
  have f55 := hts (.fieldLink RX5 55 "DockyardSlotsModel" "free" "I") (by decide +kernel)
  have f58 := hts (.fieldLink RX5 58 "DockyardSlotsModel" "rate" "I") (by decide +kernel)
  have f61 := hts (.fieldLink RX5 61 "DockyardSlotsModel" "paidHours" "I") (by decide +kernel)
  have f64 := hts (.fieldLink RX5 64 "DockyardSlotsModel" "laterRate" "I") (by decide +kernel)
  have LX5 : ∀ w ∈ wsX50, w.before [.ref (am 0 0), .int (iZ t)].toArray s = true := fun w h => hts w (List.mem_cons_of_mem _ (List.mem_append_left _ (List.mem_append_right _ h)))
  have hR1 := hR.1
  have hwt := mWait_R hR t.toNat
  refine lv_aload_n hx hb dX5_costs_0 rfl (lv_at hl 0 rfl) ?_
  refine lv_iload_n hx hb dX5_costs_1 rfl (lv_at hl 1 rfl) ?_
  refine zc_i (zrV (As := [.int (iZ t)]) (rest := []) (κ := 0) (i := 0) ⟨hx, hb, hml, hown, hts⟩ (c_X5_waits l D cA n am S H.size t hW (by omega)) (cwV 1 hts gX5_costs_X5_waits rfl rfl rfl (by decide +kernel) ⟨Nat.le_of_ble_eq_true rfl, Nat.le_of_ble_eq_true rfl⟩) hK hI (hW.1 0 (by decide)) rfl rfl rfl hl.1 rfl (Nat.le_of_ble_eq_true rfl) dX5_costs_2 ⟨Nat.le_of_ble_eq_true rfl, Nat.le_of_ble_eq_true rfl⟩) hI (fun z1 u9 H locs hz2 hp3 hI hfr => ?_)
  clear hfr
  obtain ⟨rfl, rfl⟩ := hp3
  refine lv_aload_n hx hb dX5_costs_5 rfl (lv_at hl 0 rfl) ?_
  refine zg_i (κ := 0) (i := 0) (k := 17) hx hb LX5 hown hK hI (hW.1 0 (by decide)) rfl rfl (by decide) rfl f55 (fun _ h9 => h9) dX5_costs_6 rfl (fun b4 => ?_)
  refine z_isub hx hb dX5_costs_9 ?_
  refine lv_istore_n (lv' := [(2, .int (iZ (mWait S t.toNat - S 0 0 17))), (0, .ref (am 0 0)), (1, .int (iZ t))]) hx hb dX5_costs_10 rfl hl (by decide) rfl (fun ls hl => ?_)
  refine lv_aload_n hx hb dX5_costs_11 rfl (lv_at hl 1 rfl) ?_
  refine lv_iload_n hx hb dX5_costs_12 rfl (lv_at hl 2 rfl) ?_
  refine zc_i (zrV (As := [.int (iZ t)]) (rest := []) (κ := 0) (i := 0) ⟨hx, hb, hml, hown, hts⟩ (c_X5_punctual l D cA n am S H.size t hW (by omega)) (cwV 1 hts gX5_costs_X5_punctual rfl rfl rfl (by decide +kernel) ⟨Nat.le_of_ble_eq_true rfl, Nat.le_of_ble_eq_true rfl⟩) hK hI (hW.1 0 (by decide)) rfl rfl rfl hl.1 rfl (Nat.le_of_ble_eq_true rfl) dX5_costs_13 ⟨Nat.le_of_ble_eq_true rfl, Nat.le_of_ble_eq_true rfl⟩) hI (fun z5 u9 H locs hz6 hp7 hI hfr => ?_)
  clear hfr
  obtain ⟨rfl, rfl⟩ := hp7
  refine z_bipush hx hb dX5_costs_16 (by decide) ?_
  refine z_icmp_eq (tgt := 25) hx hb dX5_costs_18 (by decide) (by have := mPunc_R S t.toNat; omega) (by have := mPunc_R S t.toNat; omega) (fun c8 => ?_) (fun c8 => ?_)
  · skip
    refine z_iconst hx hb dX5_costs_25 ?_
    exact (ze_i (u' := (n, am, S)) (z := 0) hx hb hr rfl hI (by omega) ⟨by unfold mCost; repeat (first | rw [if_pos (by first | omega | assumption)] | rw [if_neg (by first | omega | assumption)]), rfl⟩ (Nat.le_of_ble_eq_true rfl) (Nat.le_of_ble_eq_true rfl) dX5_costs_26 hlocks)
  · skip
    refine lv_iload_n hx hb dX5_costs_21 rfl (lv_at hl 0 rfl) ?_
    refine z_if_gt (tgt := 27) hx hb dX5_costs_22 (by decide) (by omega) (fun c9 => ?_) (fun c9 => ?_)
    · skip
      refine lv_iload_n hx hb dX5_costs_27 rfl (lv_at hl 0 rfl) ?_
      refine lv_aload_n hx hb dX5_costs_28 rfl (lv_at hl 1 rfl) ?_
      refine zg_i (κ := 0) (i := 0) (k := 19) hx hb LX5 hown hK hI (hW.1 0 (by decide)) rfl rfl (by decide) rfl f61 (fun _ h9 => h9) dX5_costs_29 rfl (fun b10 => ?_)
      refine z_icmp_gt (tgt := 44) hx hb dX5_costs_32 (by decide) (by omega) (by omega) (fun c11 => ?_) (fun c11 => ?_)
      · skip
        refine lv_aload_n hx hb dX5_costs_44 rfl (lv_at hl 1 rfl) ?_
        refine zg_i (κ := 0) (i := 0) (k := 19) hx hb LX5 hown hK hI (hW.1 0 (by decide)) rfl rfl (by decide) rfl f61 (fun _ h9 => h9) dX5_costs_45 rfl (fun b12 => ?_)
        refine lv_aload_n hx hb dX5_costs_48 rfl (lv_at hl 1 rfl) ?_
        refine zg_i (κ := 0) (i := 0) (k := 18) hx hb LX5 hown hK hI (hW.1 0 (by decide)) rfl rfl (by decide) rfl f58 (fun _ h9 => h9) dX5_costs_49 rfl (fun b13 => ?_)
        refine z_imul hx hb dX5_costs_52 ?_
        refine lv_iload_n hx hb dX5_costs_53 rfl (lv_at hl 0 rfl) ?_
        refine lv_aload_n hx hb dX5_costs_54 rfl (lv_at hl 1 rfl) ?_
        refine zg_i (κ := 0) (i := 0) (k := 19) hx hb LX5 hown hK hI (hW.1 0 (by decide)) rfl rfl (by decide) rfl f61 (fun _ h9 => h9) dX5_costs_55 rfl (fun b14 => ?_)
        refine z_isub hx hb dX5_costs_58 ?_
        refine lv_aload_n hx hb dX5_costs_59 rfl (lv_at hl 1 rfl) ?_
        refine zg_i (κ := 0) (i := 0) (k := 20) hx hb LX5 hown hK hI (hW.1 0 (by decide)) rfl rfl (by decide) rfl f64 (fun _ h9 => h9) dX5_costs_60 rfl (fun b15 => ?_)
        refine z_imul hx hb dX5_costs_63 ?_
        refine z_iadd hx hb dX5_costs_64 ?_
        exact (ze_i (u' := (n, am, S)) (z := ((S 0 0 19 * S 0 0 18) + (((mWait S t.toNat - S 0 0 17) - S 0 0 19) * S 0 0 20))) hx hb hr rfl hI (by have h9 := mCost_R hR t.toNat; unfold mCost at h9; rw [if_neg (by omega)] at h9; (first | rw [if_pos (by omega)] at h9 | rw [if_neg (by omega)] at h9); constructor <;> omega) ⟨by unfold mCost; repeat (first | rw [if_pos (by first | omega | assumption)] | rw [if_neg (by first | omega | assumption)]), rfl⟩ (Nat.le_of_ble_eq_true rfl) (Nat.le_of_ble_eq_true rfl) dX5_costs_65 hlocks)
      · skip
        refine lv_iload_n hx hb dX5_costs_35 rfl (lv_at hl 0 rfl) ?_
        refine lv_aload_n hx hb dX5_costs_36 rfl (lv_at hl 1 rfl) ?_
        refine zg_i (κ := 0) (i := 0) (k := 18) hx hb LX5 hown hK hI (hW.1 0 (by decide)) rfl rfl (by decide) rfl f58 (fun _ h9 => h9) dX5_costs_37 rfl (fun b16 => ?_)
        refine z_imul hx hb dX5_costs_40 ?_
        refine lv_goto (tgt := 65) hx hb dX5_costs_41 (by decide) ?_
        exact (ze_i (u' := (n, am, S)) (z := ((mWait S t.toNat - S 0 0 17) * S 0 0 18)) hx hb hr rfl hI (by have h9 := mCost_R hR t.toNat; unfold mCost at h9; rw [if_neg (by omega)] at h9; (first | rw [if_pos (by omega)] at h9 | rw [if_neg (by omega)] at h9); constructor <;> omega) ⟨by unfold mCost; repeat (first | rw [if_pos (by first | omega | assumption)] | rw [if_neg (by first | omega | assumption)]), rfl⟩ (Nat.le_of_ble_eq_true rfl) (Nat.le_of_ble_eq_true rfl) dX5_costs_65 hlocks)
    · skip
      refine z_iconst hx hb dX5_costs_25 ?_
      exact (ze_i (u' := (n, am, S)) (z := 0) hx hb hr rfl hI (by omega) ⟨by unfold mCost; repeat (first | rw [if_pos (by first | omega | assumption)] | rw [if_neg (by first | omega | assumption)]), rfl⟩ (Nat.le_of_ble_eq_true rfl) (Nat.le_of_ble_eq_true rfl) dX5_costs_26 hlocks)
set_option maxHeartbeats 4000000 in
set_option maxRecDepth 100000 in
theorem c_X5_addLane (l : Launch) (D : va_G) (cA : Nat → ClassId) (n : Nat → Nat) (am : ts_Am) (S : ts_St) (sz : Nat) (a b : Int) (hW : mW n S) (ha0 : iR a) (hR : mR S) (hb0 : 0 ≤ b ∧ b < 2) : Met l yX5_addLane wsX5_addLane ({ frames := 1, cells := 0, slots := 0, locals := 22 } : Room) (va_Pc [.ref (am 0 0), .int (iZ a), .int (iZ b)] (zP TM D cA (n, am, S) sz)) (zQi TM D cA (n, am, S) sz (fun z u => (¬ kAddLane S a = 0 ∧ u = (n, am, up3 S 0 0 24 (kAddLane S a))) ∨ (kAddLane S a = 0 ∧ z = S 0 0 0 ∧ u = (n, am, gAddLane S a b)))) 0 0 (ts_A (n, am, S) sz) := by
  refine zM_of (by decide) rfl (Nat.le_of_ble_eq_true rfl) ?_
  intro p e s m below meth c hx hb hr hts hown hlocks hml hname hK hsz H locs hI ls hl
  subst hsz
  have hown : s.vm.findClass RX5 = some m.cls := hown
  have hl : lv_has ls 3 [(0, .ref (am 0 0)), (1, .int (iZ a)), (2, .int (iZ b))] := hl
  have f13 := hts (.fieldLink RX5 13 "DockyardSlotsModel" "havePower" "[Z") (by decide +kernel)
  have f7 := hts (.fieldLink RX5 7 "DockyardSlotsModel" "capacities" "[I") (by decide +kernel)
  have f70 := hts (.fieldLink RX5 70 "DockyardSlotsModel" "lanes" "I") (by decide +kernel)
  have LX5 : ∀ w ∈ wsX50, w.before [.ref (am 0 0), .int (iZ a), .int (iZ b)].toArray s = true := fun w h => hts w (List.mem_cons_of_mem _ (List.mem_append_left _ (List.mem_append_right _ h)))
  have hR1 := hR.1
  refine lv_aload_n hx hb dX5_addLane_0 rfl (lv_at hl 0 rfl) ?_
  refine lv_iload_n hx hb dX5_addLane_1 rfl (lv_at hl 1 rfl) ?_
  refine z_iconst hx hb dX5_addLane_2 ?_
  refine z_iconst hx hb dX5_addLane_3 ?_
  refine zc_i (zrS (As := [.int (iZ a), .int (iZ 1), .int (iZ 3)]) (rest := [.ref (am 0 0)]) ⟨hx, hb, hml, hown, hts⟩ (c_X5_in l D cA n am S H.size a 1 3 (by omega) (by omega) (by omega)) (va_cwS 3 hts gX5_addLane_X5_in rfl rfl rfl (by decide +kernel) ⟨Nat.le_of_ble_eq_true rfl, Nat.le_of_ble_eq_true rfl⟩) hK hI rfl hl.1 rfl (Nat.le_of_ble_eq_true rfl) dX5_addLane_4 ⟨Nat.le_of_ble_eq_true rfl, Nat.le_of_ble_eq_true rfl⟩) hI (fun z1 u9 H locs hz2 hp3 hI hfr => ?_)
  clear hfr
  obtain ⟨rfl, rfl⟩ := hp3
  refine z_if_ne (tgt := 14) hx hb dX5_addLane_7 (by decide) (by omega) (fun c4 => ?_) (fun c4 => ?_)
  · skip
    have c4 := zB_1 c4
    refine lv_aload_n hx hb dX5_addLane_14 rfl (lv_at hl 0 rfl) ?_
    refine zg_i (κ := 0) (i := 0) (k := 0) hx hb LX5 hown hK hI (hW.1 0 (by decide)) rfl rfl (by decide) rfl f70 (fun _ h9 => h9) dX5_addLane_15 rfl (fun b5 => ?_)
    refine z_iconst hx hb dX5_addLane_18 ?_
    refine z_icmp_ne (tgt := 26) hx hb dX5_addLane_19 (by decide) (by omega) (by omega) (fun c6 => ?_) (fun c6 => ?_)
    · skip
      refine z_iconst hx hb dX5_addLane_26 ?_
      refine zc_i (zrV (As := [.int (iZ 0)]) (rest := []) (κ := 0) (i := 0) ⟨hx, hb, hml, hown, hts⟩ (c_X5_fails l D cA n am S H.size 0 hW (by omega)) (cwV 1 hts gX5_addLane_X5_fails rfl rfl rfl (by decide +kernel) ⟨Nat.le_of_ble_eq_true rfl, Nat.le_of_ble_eq_true rfl⟩) hK hI (hW.1 0 (by decide)) rfl rfl rfl hl.1 rfl (Nat.le_of_ble_eq_true rfl) dX5_addLane_27 ⟨Nat.le_of_ble_eq_true rfl, Nat.le_of_ble_eq_true rfl⟩) hI (fun z7 u9 H locs hz8 hp9 hI hfr => ?_)
      clear hfr
      obtain ⟨rfl, rfl⟩ := hp9
      obtain ⟨S10, eS10⟩ : ∃ z, z = up3 S 0 0 24 0 := ⟨_, rfl⟩
      rw [← eS10] at hI
      have hW : mW n S10 := by rw [eS10]; exact hW.put rfl
      refine z_if_eq (tgt := 35) hx hb dX5_addLane_30 (by decide) (by omega) (fun c11 => ?_) (fun c11 => ?_)
      · skip
        have c11 := zB_0 c11
        refine lv_aload_n hx hb dX5_addLane_35 rfl (lv_at hl 0 rfl) ?_
        refine zg_r (κ := 0) (i := 0) (k := 1) (t := 1) (j := 0) hx hb LX5 hown hK hI (hW.1 0 (by decide)) rfl rfl (by decide) rfl f7 (fun _ h9 => h9) dX5_addLane_36 (hW.rf 1 rfl) (fun v12 => ?_)
        refine lv_aload_n hx hb dX5_addLane_39 rfl (lv_at hl 0 rfl) ?_
        refine zg_i (κ := 0) (i := 0) (k := 0) hx hb LX5 hown hK hI (hW.1 0 (by decide)) rfl rfl (by decide) rfl f70 (fun _ h9 => h9) dX5_addLane_40 (by rw [eS10, up3_n (by omega)]) (fun b13 => ?_)
        refine lv_iload_n hx hb dX5_addLane_43 rfl (lv_at hl 1 rfl) ?_
        refine zs_i (κ := 1) (i := 0) hx hb hK hI v12 rfl (by omega) (by omega) (by omega) (by omega) dX5_addLane_44 (fun H locs hI => ?_)
        obtain ⟨S14, eS14⟩ : ∃ z, z = up3 S10 1 0 ((S 0 0 0).toNat) a := ⟨_, rfl⟩
        rw [← eS14] at hI
        have hW : mW n S14 := by rw [eS14]; exact hW.put rfl
        refine lv_aload_n hx hb dX5_addLane_45 rfl (lv_at hl 0 rfl) ?_
        refine zg_r (κ := 0) (i := 0) (k := 2) (t := 2) (j := 0) hx hb LX5 hown hK hI (hW.1 0 (by decide)) rfl rfl (by decide) rfl f13 (fun _ h9 => h9) dX5_addLane_46 (hW.rf 2 rfl) (fun v15 => ?_)
        refine lv_aload_n hx hb dX5_addLane_49 rfl (lv_at hl 0 rfl) ?_
        refine zg_i (κ := 0) (i := 0) (k := 0) hx hb LX5 hown hK hI (hW.1 0 (by decide)) rfl rfl (by decide) rfl f70 (fun _ h9 => h9) dX5_addLane_50 (by rw [eS14, up3_n (by omega), eS10, up3_n (by omega)]) (fun b16 => ?_)
        refine lv_iload_n hx hb dX5_addLane_53 rfl (lv_at hl 2 rfl) ?_
        refine zs_z (κ := 2) (i := 0) hx hb hK hI v15 rfl (by omega) (by omega) (by omega) (by omega) (by omega) (by omega) dX5_addLane_54 (fun H locs hI => ?_)
        obtain ⟨S17, eS17⟩ : ∃ z, z = up3 S14 2 0 ((S 0 0 0).toNat) b := ⟨_, rfl⟩
        rw [← eS17] at hI
        have hW : mW n S17 := by rw [eS17]; exact hW.put rfl
        refine lv_aload_n hx hb dX5_addLane_55 rfl (lv_at hl 0 rfl) ?_
        refine lv_dup hx hb dX5_addLane_56 rfl ?_
        refine zg_i (κ := 0) (i := 0) (k := 0) hx hb LX5 hown hK hI (hW.1 0 (by decide)) rfl rfl (by decide) rfl f70 (fun _ h9 => h9) dX5_addLane_57 (by rw [eS17, up3_n (by omega), eS14, up3_n (by omega), eS10, up3_n (by omega)]) (fun b18 => ?_)
        refine z_iconst hx hb dX5_addLane_60 ?_
        refine z_iadd hx hb dX5_addLane_61 ?_
        refine zp_i (κ := 0) (i := 0) (k := 0) hx hb LX5 tyX5 tyX5_ok nmX5 hown hK hI (hW.1 0 (by decide)) rfl rfl (by decide) rfl f70 (fun _ h9 => h9) rfl rfl rfl (by omega) dX5_addLane_62 (fun H locs hI => ?_)
        obtain ⟨S19, eS19⟩ : ∃ z, z = up3 S17 0 0 0 (S 0 0 0 + 1) := ⟨_, rfl⟩
        rw [← eS19] at hI
        have hW : mW n S19 := by rw [eS19]; exact hW.put rfl
        refine lv_aload_n hx hb dX5_addLane_65 rfl (lv_at hl 0 rfl) ?_
        refine zg_i (κ := 0) (i := 0) (k := 0) hx hb LX5 hown hK hI (hW.1 0 (by decide)) rfl rfl (by decide) rfl f70 (fun _ h9 => h9) dX5_addLane_66 (by rw [eS19, up3_s]) (fun b20 => ?_)
        refine z_iconst hx hb dX5_addLane_69 ?_
        refine z_isub hx hb dX5_addLane_70 ?_
        exact (ze_i (u' := (n, am, S19)) (z := ((S 0 0 0 + 1) - 1)) hx hb hr rfl hI (by omega) (Or.inr ⟨(show kAddLane S a = 0 by unfold kAddLane; repeat (first | rw [if_pos (by first | omega | assumption)] | rw [if_neg (by first | omega | assumption)])), by omega, by rw [eS19, eS17, eS14, eS10]; rfl⟩) (Nat.le_of_ble_eq_true rfl) (Nat.le_of_ble_eq_true rfl) dX5_addLane_71 hlocks)
      · skip
        have c11 := zB_1 c11
        omega
    · skip
      refine z_iconst hx hb dX5_addLane_22 ?_
      refine lv_goto (tgt := 27) hx hb dX5_addLane_23 (by decide) ?_
      refine zc_i (zrV (As := [.int (iZ 2)]) (rest := []) (κ := 0) (i := 0) ⟨hx, hb, hml, hown, hts⟩ (c_X5_fails l D cA n am S H.size 2 hW (by omega)) (cwV 1 hts gX5_addLane_X5_fails rfl rfl rfl (by decide +kernel) ⟨Nat.le_of_ble_eq_true rfl, Nat.le_of_ble_eq_true rfl⟩) hK hI (hW.1 0 (by decide)) rfl rfl rfl hl.1 rfl (Nat.le_of_ble_eq_true rfl) dX5_addLane_27 ⟨Nat.le_of_ble_eq_true rfl, Nat.le_of_ble_eq_true rfl⟩) hI (fun z21 u9 H locs hz22 hp23 hI hfr => ?_)
      clear hfr
      obtain ⟨rfl, rfl⟩ := hp23
      obtain ⟨S24, eS24⟩ : ∃ z, z = up3 S 0 0 24 2 := ⟨_, rfl⟩
      rw [← eS24] at hI
      have hW : mW n S24 := by rw [eS24]; exact hW.put rfl
      refine z_if_eq (tgt := 35) hx hb dX5_addLane_30 (by decide) (by omega) (fun c25 => ?_) (fun c25 => ?_)
      · skip
        have c25 := zB_0 c25
        omega
      · skip
        have c25 := zB_1 c25
        refine z_iconst hx hb dX5_addLane_33 ?_
        exact (ze_i (u' := (n, am, S24)) (z := 0) hx hb hr rfl hI (by omega) (Or.inl ⟨by rw [(show kAddLane S a = 2 by unfold kAddLane; repeat (first | rw [if_pos (by first | omega | assumption)] | rw [if_neg (by first | omega | assumption)]))]; decide, by rw [(show kAddLane S a = 2 by unfold kAddLane; repeat (first | rw [if_pos (by first | omega | assumption)] | rw [if_neg (by first | omega | assumption)])), eS24]⟩) (Nat.le_of_ble_eq_true rfl) (Nat.le_of_ble_eq_true rfl) dX5_addLane_34 hlocks)
  · skip
    have c4 := zB_0 c4
    refine z_iconst hx hb dX5_addLane_10 ?_
    refine lv_goto (tgt := 27) hx hb dX5_addLane_11 (by decide) ?_
    refine zc_i (zrV (As := [.int (iZ 1)]) (rest := []) (κ := 0) (i := 0) ⟨hx, hb, hml, hown, hts⟩ (c_X5_fails l D cA n am S H.size 1 hW (by omega)) (cwV 1 hts gX5_addLane_X5_fails rfl rfl rfl (by decide +kernel) ⟨Nat.le_of_ble_eq_true rfl, Nat.le_of_ble_eq_true rfl⟩) hK hI (hW.1 0 (by decide)) rfl rfl rfl hl.1 rfl (Nat.le_of_ble_eq_true rfl) dX5_addLane_27 ⟨Nat.le_of_ble_eq_true rfl, Nat.le_of_ble_eq_true rfl⟩) hI (fun z26 u9 H locs hz27 hp28 hI hfr => ?_)
    clear hfr
    obtain ⟨rfl, rfl⟩ := hp28
    obtain ⟨S29, eS29⟩ : ∃ z, z = up3 S 0 0 24 1 := ⟨_, rfl⟩
    rw [← eS29] at hI
    have hW : mW n S29 := by rw [eS29]; exact hW.put rfl
    refine z_if_eq (tgt := 35) hx hb dX5_addLane_30 (by decide) (by omega) (fun c30 => ?_) (fun c30 => ?_)
    · skip
      have c30 := zB_0 c30
      omega
    · skip
      have c30 := zB_1 c30
      refine z_iconst hx hb dX5_addLane_33 ?_
      exact (ze_i (u' := (n, am, S29)) (z := 0) hx hb hr rfl hI (by omega) (Or.inl ⟨by rw [(show kAddLane S a = 1 by unfold kAddLane; repeat (first | rw [if_pos (by first | omega | assumption)] | rw [if_neg (by first | omega | assumption)]))]; decide, by rw [(show kAddLane S a = 1 by unfold kAddLane; repeat (first | rw [if_pos (by first | omega | assumption)] | rw [if_neg (by first | omega | assumption)])), eS29]⟩) (Nat.le_of_ble_eq_true rfl) (Nat.le_of_ble_eq_true rfl) dX5_addLane_34 hlocks)
set_option maxHeartbeats 4000000 in
set_option maxRecDepth 100000 in
theorem c_X5_addDoor (l : Launch) (D : va_G) (cA : Nat → ClassId) (n : Nat → Nat) (am : ts_Am) (S : ts_St) (sz : Nat) (a : Int) (hW : mW n S) (ha0 : 0 ≤ a ∧ a < 65536) (hR : mR S) : Met l yX5_addDoor wsX5_addDoor ({ frames := 1, cells := 0, slots := 0, locals := 21 } : Room) (va_Pc [.ref (am 0 0), .int (iZ a)] (zP TM D cA (n, am, S) sz)) (zQi TM D cA (n, am, S) sz (fun z u => (¬ kAddDoor S a = 0 ∧ u = (n, am, up3 S 0 0 24 (kAddDoor S a))) ∨ (kAddDoor S a = 0 ∧ z = S 0 0 5 ∧ u = (n, am, gAddDoor S a)))) 0 0 (ts_A (n, am, S) sz) := by
  refine zM_of (by decide) rfl (Nat.le_of_ble_eq_true rfl) ?_
  intro p e s m below meth c hx hb hr hts hown hlocks hml hname hK hsz H locs hI ls hl
  subst hsz
  have hown : s.vm.findClass RX5 = some m.cls := hown
  have hl : lv_has ls 2 [(0, .ref (am 0 0)), (1, .int (iZ a))] := hl
  have f23 := hts (.fieldLink RX5 23 "DockyardSlotsModel" "doorKinds" "[C") (by decide +kernel)
  have f27 := hts (.fieldLink RX5 27 "DockyardSlotsModel" "atDoors" "[I") (by decide +kernel)
  have f84 := hts (.fieldLink RX5 84 "DockyardSlotsModel" "doors" "I") (by decide +kernel)
  have LX5 : ∀ w ∈ wsX50, w.before [.ref (am 0 0), .int (iZ a)].toArray s = true := fun w h => hts w (List.mem_cons_of_mem _ (List.mem_append_left _ (List.mem_append_right _ h)))
  have hR1 := hR.1
  refine lv_aload_n hx hb dX5_addDoor_0 rfl (lv_at hl 0 rfl) ?_
  refine lv_iload_n hx hb dX5_addDoor_1 rfl (lv_at hl 1 rfl) ?_
  refine z_bipush hx hb dX5_addDoor_2 (by decide) ?_
  refine z_icmp_eq (tgt := 23) hx hb dX5_addDoor_4 (by decide) (by omega) (by omega) (fun c1 => ?_) (fun c1 => ?_)
  · skip
    refine lv_aload_n hx hb dX5_addDoor_23 rfl (lv_at hl 0 rfl) ?_
    refine zg_i (κ := 0) (i := 0) (k := 5) hx hb LX5 hown hK hI (hW.1 0 (by decide)) rfl rfl (by decide) rfl f84 (fun _ h9 => h9) dX5_addDoor_24 rfl (fun b2 => ?_)
    refine z_iconst hx hb dX5_addDoor_27 ?_
    refine z_icmp_ne (tgt := 35) hx hb dX5_addDoor_28 (by decide) (by omega) (by omega) (fun c3 => ?_) (fun c3 => ?_)
    · skip
      refine z_iconst hx hb dX5_addDoor_35 ?_
      refine zc_i (zrV (As := [.int (iZ 0)]) (rest := []) (κ := 0) (i := 0) ⟨hx, hb, hml, hown, hts⟩ (c_X5_fails l D cA n am S H.size 0 hW (by omega)) (cwV 1 hts gX5_addDoor_X5_fails rfl rfl rfl (by decide +kernel) ⟨Nat.le_of_ble_eq_true rfl, Nat.le_of_ble_eq_true rfl⟩) hK hI (hW.1 0 (by decide)) rfl rfl rfl hl.1 rfl (Nat.le_of_ble_eq_true rfl) dX5_addDoor_36 ⟨Nat.le_of_ble_eq_true rfl, Nat.le_of_ble_eq_true rfl⟩) hI (fun z4 u9 H locs hz5 hp6 hI hfr => ?_)
      clear hfr
      obtain ⟨rfl, rfl⟩ := hp6
      obtain ⟨S7, eS7⟩ : ∃ z, z = up3 S 0 0 24 0 := ⟨_, rfl⟩
      rw [← eS7] at hI
      have hW : mW n S7 := by rw [eS7]; exact hW.put rfl
      refine z_if_eq (tgt := 44) hx hb dX5_addDoor_39 (by decide) (by omega) (fun c8 => ?_) (fun c8 => ?_)
      · skip
        have c8 := zB_0 c8
        refine lv_aload_n hx hb dX5_addDoor_44 rfl (lv_at hl 0 rfl) ?_
        refine zg_r (κ := 0) (i := 0) (k := 6) (t := 6) (j := 0) hx hb LX5 hown hK hI (hW.1 0 (by decide)) rfl rfl (by decide) rfl f23 (fun _ h9 => h9) dX5_addDoor_45 (hW.rf 6 rfl) (fun v9 => ?_)
        refine lv_aload_n hx hb dX5_addDoor_48 rfl (lv_at hl 0 rfl) ?_
        refine zg_i (κ := 0) (i := 0) (k := 5) hx hb LX5 hown hK hI (hW.1 0 (by decide)) rfl rfl (by decide) rfl f84 (fun _ h9 => h9) dX5_addDoor_49 (by rw [eS7, up3_n (by omega)]) (fun b10 => ?_)
        refine lv_iload_n hx hb dX5_addDoor_52 rfl (lv_at hl 1 rfl) ?_
        refine zs_c (κ := 6) (i := 0) hx hb hK hI v9 rfl (by omega) (by omega) (by omega) (by omega) (by omega) (by omega) dX5_addDoor_53 (fun H locs hI => ?_)
        obtain ⟨S11, eS11⟩ : ∃ z, z = up3 S7 6 0 ((S 0 0 5).toNat) a := ⟨_, rfl⟩
        rw [← eS11] at hI
        have hW : mW n S11 := by rw [eS11]; exact hW.put rfl
        refine lv_aload_n hx hb dX5_addDoor_54 rfl (lv_at hl 0 rfl) ?_
        refine zg_r (κ := 0) (i := 0) (k := 7) (t := 7) (j := 0) hx hb LX5 hown hK hI (hW.1 0 (by decide)) rfl rfl (by decide) rfl f27 (fun _ h9 => h9) dX5_addDoor_55 (hW.rf 7 rfl) (fun v12 => ?_)
        refine lv_aload_n hx hb dX5_addDoor_58 rfl (lv_at hl 0 rfl) ?_
        refine zg_i (κ := 0) (i := 0) (k := 5) hx hb LX5 hown hK hI (hW.1 0 (by decide)) rfl rfl (by decide) rfl f84 (fun _ h9 => h9) dX5_addDoor_59 (by rw [eS11, up3_n (by omega), eS7, up3_n (by omega)]) (fun b13 => ?_)
        refine z_iconst hx hb dX5_addDoor_62 ?_
        refine zs_i (κ := 7) (i := 0) hx hb hK hI v12 rfl (by omega) (by omega) (by omega) (by omega) dX5_addDoor_63 (fun H locs hI => ?_)
        obtain ⟨S14, eS14⟩ : ∃ z, z = up3 S11 7 0 ((S 0 0 5).toNat) (-1) := ⟨_, rfl⟩
        rw [← eS14] at hI
        have hW : mW n S14 := by rw [eS14]; exact hW.put rfl
        refine lv_aload_n hx hb dX5_addDoor_64 rfl (lv_at hl 0 rfl) ?_
        refine lv_dup hx hb dX5_addDoor_65 rfl ?_
        refine zg_i (κ := 0) (i := 0) (k := 5) hx hb LX5 hown hK hI (hW.1 0 (by decide)) rfl rfl (by decide) rfl f84 (fun _ h9 => h9) dX5_addDoor_66 (by rw [eS14, up3_n (by omega), eS11, up3_n (by omega), eS7, up3_n (by omega)]) (fun b15 => ?_)
        refine z_iconst hx hb dX5_addDoor_69 ?_
        refine z_iadd hx hb dX5_addDoor_70 ?_
        refine zp_i (κ := 0) (i := 0) (k := 5) hx hb LX5 tyX5 tyX5_ok nmX5 hown hK hI (hW.1 0 (by decide)) rfl rfl (by decide) rfl f84 (fun _ h9 => h9) rfl rfl rfl (by omega) dX5_addDoor_71 (fun H locs hI => ?_)
        obtain ⟨S16, eS16⟩ : ∃ z, z = up3 S14 0 0 5 (S 0 0 5 + 1) := ⟨_, rfl⟩
        rw [← eS16] at hI
        have hW : mW n S16 := by rw [eS16]; exact hW.put rfl
        refine lv_aload_n hx hb dX5_addDoor_74 rfl (lv_at hl 0 rfl) ?_
        refine zg_i (κ := 0) (i := 0) (k := 5) hx hb LX5 hown hK hI (hW.1 0 (by decide)) rfl rfl (by decide) rfl f84 (fun _ h9 => h9) dX5_addDoor_75 (by rw [eS16, up3_s]) (fun b17 => ?_)
        refine z_iconst hx hb dX5_addDoor_78 ?_
        refine z_isub hx hb dX5_addDoor_79 ?_
        exact (ze_i (u' := (n, am, S16)) (z := ((S 0 0 5 + 1) - 1)) hx hb hr rfl hI (by omega) (Or.inr ⟨(show kAddDoor S a = 0 by unfold kAddDoor; repeat (first | rw [if_pos (by first | omega | assumption)] | rw [if_neg (by first | omega | assumption)])), by omega, by rw [eS16, eS14, eS11, eS7]; rfl⟩) (Nat.le_of_ble_eq_true rfl) (Nat.le_of_ble_eq_true rfl) dX5_addDoor_80 hlocks)
      · skip
        have c8 := zB_1 c8
        omega
    · skip
      refine z_iconst hx hb dX5_addDoor_31 ?_
      refine lv_goto (tgt := 36) hx hb dX5_addDoor_32 (by decide) ?_
      refine zc_i (zrV (As := [.int (iZ 2)]) (rest := []) (κ := 0) (i := 0) ⟨hx, hb, hml, hown, hts⟩ (c_X5_fails l D cA n am S H.size 2 hW (by omega)) (cwV 1 hts gX5_addDoor_X5_fails rfl rfl rfl (by decide +kernel) ⟨Nat.le_of_ble_eq_true rfl, Nat.le_of_ble_eq_true rfl⟩) hK hI (hW.1 0 (by decide)) rfl rfl rfl hl.1 rfl (Nat.le_of_ble_eq_true rfl) dX5_addDoor_36 ⟨Nat.le_of_ble_eq_true rfl, Nat.le_of_ble_eq_true rfl⟩) hI (fun z18 u9 H locs hz19 hp20 hI hfr => ?_)
      clear hfr
      obtain ⟨rfl, rfl⟩ := hp20
      obtain ⟨S21, eS21⟩ : ∃ z, z = up3 S 0 0 24 2 := ⟨_, rfl⟩
      rw [← eS21] at hI
      have hW : mW n S21 := by rw [eS21]; exact hW.put rfl
      refine z_if_eq (tgt := 44) hx hb dX5_addDoor_39 (by decide) (by omega) (fun c22 => ?_) (fun c22 => ?_)
      · skip
        have c22 := zB_0 c22
        omega
      · skip
        have c22 := zB_1 c22
        refine z_iconst hx hb dX5_addDoor_42 ?_
        exact (ze_i (u' := (n, am, S21)) (z := 0) hx hb hr rfl hI (by omega) (Or.inl ⟨by rw [(show kAddDoor S a = 2 by unfold kAddDoor; repeat (first | rw [if_pos (by first | omega | assumption)] | rw [if_neg (by first | omega | assumption)]))]; decide, by rw [(show kAddDoor S a = 2 by unfold kAddDoor; repeat (first | rw [if_pos (by first | omega | assumption)] | rw [if_neg (by first | omega | assumption)])), eS21]⟩) (Nat.le_of_ble_eq_true rfl) (Nat.le_of_ble_eq_true rfl) dX5_addDoor_43 hlocks)
  · skip
    refine lv_iload_n hx hb dX5_addDoor_7 rfl (lv_at hl 1 rfl) ?_
    refine z_bipush hx hb dX5_addDoor_8 (by decide) ?_
    refine z_icmp_eq (tgt := 23) hx hb dX5_addDoor_10 (by decide) (by omega) (by omega) (fun c23 => ?_) (fun c23 => ?_)
    · skip
      refine lv_aload_n hx hb dX5_addDoor_23 rfl (lv_at hl 0 rfl) ?_
      refine zg_i (κ := 0) (i := 0) (k := 5) hx hb LX5 hown hK hI (hW.1 0 (by decide)) rfl rfl (by decide) rfl f84 (fun _ h9 => h9) dX5_addDoor_24 rfl (fun b24 => ?_)
      refine z_iconst hx hb dX5_addDoor_27 ?_
      refine z_icmp_ne (tgt := 35) hx hb dX5_addDoor_28 (by decide) (by omega) (by omega) (fun c25 => ?_) (fun c25 => ?_)
      · skip
        refine z_iconst hx hb dX5_addDoor_35 ?_
        refine zc_i (zrV (As := [.int (iZ 0)]) (rest := []) (κ := 0) (i := 0) ⟨hx, hb, hml, hown, hts⟩ (c_X5_fails l D cA n am S H.size 0 hW (by omega)) (cwV 1 hts gX5_addDoor_X5_fails rfl rfl rfl (by decide +kernel) ⟨Nat.le_of_ble_eq_true rfl, Nat.le_of_ble_eq_true rfl⟩) hK hI (hW.1 0 (by decide)) rfl rfl rfl hl.1 rfl (Nat.le_of_ble_eq_true rfl) dX5_addDoor_36 ⟨Nat.le_of_ble_eq_true rfl, Nat.le_of_ble_eq_true rfl⟩) hI (fun z26 u9 H locs hz27 hp28 hI hfr => ?_)
        clear hfr
        obtain ⟨rfl, rfl⟩ := hp28
        obtain ⟨S29, eS29⟩ : ∃ z, z = up3 S 0 0 24 0 := ⟨_, rfl⟩
        rw [← eS29] at hI
        have hW : mW n S29 := by rw [eS29]; exact hW.put rfl
        refine z_if_eq (tgt := 44) hx hb dX5_addDoor_39 (by decide) (by omega) (fun c30 => ?_) (fun c30 => ?_)
        · skip
          have c30 := zB_0 c30
          refine lv_aload_n hx hb dX5_addDoor_44 rfl (lv_at hl 0 rfl) ?_
          refine zg_r (κ := 0) (i := 0) (k := 6) (t := 6) (j := 0) hx hb LX5 hown hK hI (hW.1 0 (by decide)) rfl rfl (by decide) rfl f23 (fun _ h9 => h9) dX5_addDoor_45 (hW.rf 6 rfl) (fun v31 => ?_)
          refine lv_aload_n hx hb dX5_addDoor_48 rfl (lv_at hl 0 rfl) ?_
          refine zg_i (κ := 0) (i := 0) (k := 5) hx hb LX5 hown hK hI (hW.1 0 (by decide)) rfl rfl (by decide) rfl f84 (fun _ h9 => h9) dX5_addDoor_49 (by rw [eS29, up3_n (by omega)]) (fun b32 => ?_)
          refine lv_iload_n hx hb dX5_addDoor_52 rfl (lv_at hl 1 rfl) ?_
          refine zs_c (κ := 6) (i := 0) hx hb hK hI v31 rfl (by omega) (by omega) (by omega) (by omega) (by omega) (by omega) dX5_addDoor_53 (fun H locs hI => ?_)
          obtain ⟨S33, eS33⟩ : ∃ z, z = up3 S29 6 0 ((S 0 0 5).toNat) a := ⟨_, rfl⟩
          rw [← eS33] at hI
          have hW : mW n S33 := by rw [eS33]; exact hW.put rfl
          refine lv_aload_n hx hb dX5_addDoor_54 rfl (lv_at hl 0 rfl) ?_
          refine zg_r (κ := 0) (i := 0) (k := 7) (t := 7) (j := 0) hx hb LX5 hown hK hI (hW.1 0 (by decide)) rfl rfl (by decide) rfl f27 (fun _ h9 => h9) dX5_addDoor_55 (hW.rf 7 rfl) (fun v34 => ?_)
          refine lv_aload_n hx hb dX5_addDoor_58 rfl (lv_at hl 0 rfl) ?_
          refine zg_i (κ := 0) (i := 0) (k := 5) hx hb LX5 hown hK hI (hW.1 0 (by decide)) rfl rfl (by decide) rfl f84 (fun _ h9 => h9) dX5_addDoor_59 (by rw [eS33, up3_n (by omega), eS29, up3_n (by omega)]) (fun b35 => ?_)
          refine z_iconst hx hb dX5_addDoor_62 ?_
          refine zs_i (κ := 7) (i := 0) hx hb hK hI v34 rfl (by omega) (by omega) (by omega) (by omega) dX5_addDoor_63 (fun H locs hI => ?_)
          obtain ⟨S36, eS36⟩ : ∃ z, z = up3 S33 7 0 ((S 0 0 5).toNat) (-1) := ⟨_, rfl⟩
          rw [← eS36] at hI
          have hW : mW n S36 := by rw [eS36]; exact hW.put rfl
          refine lv_aload_n hx hb dX5_addDoor_64 rfl (lv_at hl 0 rfl) ?_
          refine lv_dup hx hb dX5_addDoor_65 rfl ?_
          refine zg_i (κ := 0) (i := 0) (k := 5) hx hb LX5 hown hK hI (hW.1 0 (by decide)) rfl rfl (by decide) rfl f84 (fun _ h9 => h9) dX5_addDoor_66 (by rw [eS36, up3_n (by omega), eS33, up3_n (by omega), eS29, up3_n (by omega)]) (fun b37 => ?_)
          refine z_iconst hx hb dX5_addDoor_69 ?_
          refine z_iadd hx hb dX5_addDoor_70 ?_
          refine zp_i (κ := 0) (i := 0) (k := 5) hx hb LX5 tyX5 tyX5_ok nmX5 hown hK hI (hW.1 0 (by decide)) rfl rfl (by decide) rfl f84 (fun _ h9 => h9) rfl rfl rfl (by omega) dX5_addDoor_71 (fun H locs hI => ?_)
          obtain ⟨S38, eS38⟩ : ∃ z, z = up3 S36 0 0 5 (S 0 0 5 + 1) := ⟨_, rfl⟩
          rw [← eS38] at hI
          have hW : mW n S38 := by rw [eS38]; exact hW.put rfl
          refine lv_aload_n hx hb dX5_addDoor_74 rfl (lv_at hl 0 rfl) ?_
          refine zg_i (κ := 0) (i := 0) (k := 5) hx hb LX5 hown hK hI (hW.1 0 (by decide)) rfl rfl (by decide) rfl f84 (fun _ h9 => h9) dX5_addDoor_75 (by rw [eS38, up3_s]) (fun b39 => ?_)
          refine z_iconst hx hb dX5_addDoor_78 ?_
          refine z_isub hx hb dX5_addDoor_79 ?_
          exact (ze_i (u' := (n, am, S38)) (z := ((S 0 0 5 + 1) - 1)) hx hb hr rfl hI (by omega) (Or.inr ⟨(show kAddDoor S a = 0 by unfold kAddDoor; repeat (first | rw [if_pos (by first | omega | assumption)] | rw [if_neg (by first | omega | assumption)])), by omega, by rw [eS38, eS36, eS33, eS29]; rfl⟩) (Nat.le_of_ble_eq_true rfl) (Nat.le_of_ble_eq_true rfl) dX5_addDoor_80 hlocks)
        · skip
          have c30 := zB_1 c30
          omega
      · skip
        refine z_iconst hx hb dX5_addDoor_31 ?_
        refine lv_goto (tgt := 36) hx hb dX5_addDoor_32 (by decide) ?_
        refine zc_i (zrV (As := [.int (iZ 2)]) (rest := []) (κ := 0) (i := 0) ⟨hx, hb, hml, hown, hts⟩ (c_X5_fails l D cA n am S H.size 2 hW (by omega)) (cwV 1 hts gX5_addDoor_X5_fails rfl rfl rfl (by decide +kernel) ⟨Nat.le_of_ble_eq_true rfl, Nat.le_of_ble_eq_true rfl⟩) hK hI (hW.1 0 (by decide)) rfl rfl rfl hl.1 rfl (Nat.le_of_ble_eq_true rfl) dX5_addDoor_36 ⟨Nat.le_of_ble_eq_true rfl, Nat.le_of_ble_eq_true rfl⟩) hI (fun z40 u9 H locs hz41 hp42 hI hfr => ?_)
        clear hfr
        obtain ⟨rfl, rfl⟩ := hp42
        obtain ⟨S43, eS43⟩ : ∃ z, z = up3 S 0 0 24 2 := ⟨_, rfl⟩
        rw [← eS43] at hI
        have hW : mW n S43 := by rw [eS43]; exact hW.put rfl
        refine z_if_eq (tgt := 44) hx hb dX5_addDoor_39 (by decide) (by omega) (fun c44 => ?_) (fun c44 => ?_)
        · skip
          have c44 := zB_0 c44
          omega
        · skip
          have c44 := zB_1 c44
          refine z_iconst hx hb dX5_addDoor_42 ?_
          exact (ze_i (u' := (n, am, S43)) (z := 0) hx hb hr rfl hI (by omega) (Or.inl ⟨by rw [(show kAddDoor S a = 2 by unfold kAddDoor; repeat (first | rw [if_pos (by first | omega | assumption)] | rw [if_neg (by first | omega | assumption)]))]; decide, by rw [(show kAddDoor S a = 2 by unfold kAddDoor; repeat (first | rw [if_pos (by first | omega | assumption)] | rw [if_neg (by first | omega | assumption)])), eS43]⟩) (Nat.le_of_ble_eq_true rfl) (Nat.le_of_ble_eq_true rfl) dX5_addDoor_43 hlocks)
    · skip
      refine lv_iload_n hx hb dX5_addDoor_13 rfl (lv_at hl 1 rfl) ?_
      refine z_bipush hx hb dX5_addDoor_14 (by decide) ?_
      refine z_icmp_eq (tgt := 23) hx hb dX5_addDoor_16 (by decide) (by omega) (by omega) (fun c45 => ?_) (fun c45 => ?_)
      · skip
        refine lv_aload_n hx hb dX5_addDoor_23 rfl (lv_at hl 0 rfl) ?_
        refine zg_i (κ := 0) (i := 0) (k := 5) hx hb LX5 hown hK hI (hW.1 0 (by decide)) rfl rfl (by decide) rfl f84 (fun _ h9 => h9) dX5_addDoor_24 rfl (fun b46 => ?_)
        refine z_iconst hx hb dX5_addDoor_27 ?_
        refine z_icmp_ne (tgt := 35) hx hb dX5_addDoor_28 (by decide) (by omega) (by omega) (fun c47 => ?_) (fun c47 => ?_)
        · skip
          refine z_iconst hx hb dX5_addDoor_35 ?_
          refine zc_i (zrV (As := [.int (iZ 0)]) (rest := []) (κ := 0) (i := 0) ⟨hx, hb, hml, hown, hts⟩ (c_X5_fails l D cA n am S H.size 0 hW (by omega)) (cwV 1 hts gX5_addDoor_X5_fails rfl rfl rfl (by decide +kernel) ⟨Nat.le_of_ble_eq_true rfl, Nat.le_of_ble_eq_true rfl⟩) hK hI (hW.1 0 (by decide)) rfl rfl rfl hl.1 rfl (Nat.le_of_ble_eq_true rfl) dX5_addDoor_36 ⟨Nat.le_of_ble_eq_true rfl, Nat.le_of_ble_eq_true rfl⟩) hI (fun z48 u9 H locs hz49 hp50 hI hfr => ?_)
          clear hfr
          obtain ⟨rfl, rfl⟩ := hp50
          obtain ⟨S51, eS51⟩ : ∃ z, z = up3 S 0 0 24 0 := ⟨_, rfl⟩
          rw [← eS51] at hI
          have hW : mW n S51 := by rw [eS51]; exact hW.put rfl
          refine z_if_eq (tgt := 44) hx hb dX5_addDoor_39 (by decide) (by omega) (fun c52 => ?_) (fun c52 => ?_)
          · skip
            have c52 := zB_0 c52
            refine lv_aload_n hx hb dX5_addDoor_44 rfl (lv_at hl 0 rfl) ?_
            refine zg_r (κ := 0) (i := 0) (k := 6) (t := 6) (j := 0) hx hb LX5 hown hK hI (hW.1 0 (by decide)) rfl rfl (by decide) rfl f23 (fun _ h9 => h9) dX5_addDoor_45 (hW.rf 6 rfl) (fun v53 => ?_)
            refine lv_aload_n hx hb dX5_addDoor_48 rfl (lv_at hl 0 rfl) ?_
            refine zg_i (κ := 0) (i := 0) (k := 5) hx hb LX5 hown hK hI (hW.1 0 (by decide)) rfl rfl (by decide) rfl f84 (fun _ h9 => h9) dX5_addDoor_49 (by rw [eS51, up3_n (by omega)]) (fun b54 => ?_)
            refine lv_iload_n hx hb dX5_addDoor_52 rfl (lv_at hl 1 rfl) ?_
            refine zs_c (κ := 6) (i := 0) hx hb hK hI v53 rfl (by omega) (by omega) (by omega) (by omega) (by omega) (by omega) dX5_addDoor_53 (fun H locs hI => ?_)
            obtain ⟨S55, eS55⟩ : ∃ z, z = up3 S51 6 0 ((S 0 0 5).toNat) a := ⟨_, rfl⟩
            rw [← eS55] at hI
            have hW : mW n S55 := by rw [eS55]; exact hW.put rfl
            refine lv_aload_n hx hb dX5_addDoor_54 rfl (lv_at hl 0 rfl) ?_
            refine zg_r (κ := 0) (i := 0) (k := 7) (t := 7) (j := 0) hx hb LX5 hown hK hI (hW.1 0 (by decide)) rfl rfl (by decide) rfl f27 (fun _ h9 => h9) dX5_addDoor_55 (hW.rf 7 rfl) (fun v56 => ?_)
            refine lv_aload_n hx hb dX5_addDoor_58 rfl (lv_at hl 0 rfl) ?_
            refine zg_i (κ := 0) (i := 0) (k := 5) hx hb LX5 hown hK hI (hW.1 0 (by decide)) rfl rfl (by decide) rfl f84 (fun _ h9 => h9) dX5_addDoor_59 (by rw [eS55, up3_n (by omega), eS51, up3_n (by omega)]) (fun b57 => ?_)
            refine z_iconst hx hb dX5_addDoor_62 ?_
            refine zs_i (κ := 7) (i := 0) hx hb hK hI v56 rfl (by omega) (by omega) (by omega) (by omega) dX5_addDoor_63 (fun H locs hI => ?_)
            obtain ⟨S58, eS58⟩ : ∃ z, z = up3 S55 7 0 ((S 0 0 5).toNat) (-1) := ⟨_, rfl⟩
            rw [← eS58] at hI
            have hW : mW n S58 := by rw [eS58]; exact hW.put rfl
            refine lv_aload_n hx hb dX5_addDoor_64 rfl (lv_at hl 0 rfl) ?_
            refine lv_dup hx hb dX5_addDoor_65 rfl ?_
            refine zg_i (κ := 0) (i := 0) (k := 5) hx hb LX5 hown hK hI (hW.1 0 (by decide)) rfl rfl (by decide) rfl f84 (fun _ h9 => h9) dX5_addDoor_66 (by rw [eS58, up3_n (by omega), eS55, up3_n (by omega), eS51, up3_n (by omega)]) (fun b59 => ?_)
            refine z_iconst hx hb dX5_addDoor_69 ?_
            refine z_iadd hx hb dX5_addDoor_70 ?_
            refine zp_i (κ := 0) (i := 0) (k := 5) hx hb LX5 tyX5 tyX5_ok nmX5 hown hK hI (hW.1 0 (by decide)) rfl rfl (by decide) rfl f84 (fun _ h9 => h9) rfl rfl rfl (by omega) dX5_addDoor_71 (fun H locs hI => ?_)
            obtain ⟨S60, eS60⟩ : ∃ z, z = up3 S58 0 0 5 (S 0 0 5 + 1) := ⟨_, rfl⟩
            rw [← eS60] at hI
            have hW : mW n S60 := by rw [eS60]; exact hW.put rfl
            refine lv_aload_n hx hb dX5_addDoor_74 rfl (lv_at hl 0 rfl) ?_
            refine zg_i (κ := 0) (i := 0) (k := 5) hx hb LX5 hown hK hI (hW.1 0 (by decide)) rfl rfl (by decide) rfl f84 (fun _ h9 => h9) dX5_addDoor_75 (by rw [eS60, up3_s]) (fun b61 => ?_)
            refine z_iconst hx hb dX5_addDoor_78 ?_
            refine z_isub hx hb dX5_addDoor_79 ?_
            exact (ze_i (u' := (n, am, S60)) (z := ((S 0 0 5 + 1) - 1)) hx hb hr rfl hI (by omega) (Or.inr ⟨(show kAddDoor S a = 0 by unfold kAddDoor; repeat (first | rw [if_pos (by first | omega | assumption)] | rw [if_neg (by first | omega | assumption)])), by omega, by rw [eS60, eS58, eS55, eS51]; rfl⟩) (Nat.le_of_ble_eq_true rfl) (Nat.le_of_ble_eq_true rfl) dX5_addDoor_80 hlocks)
          · skip
            have c52 := zB_1 c52
            omega
        · skip
          refine z_iconst hx hb dX5_addDoor_31 ?_
          refine lv_goto (tgt := 36) hx hb dX5_addDoor_32 (by decide) ?_
          refine zc_i (zrV (As := [.int (iZ 2)]) (rest := []) (κ := 0) (i := 0) ⟨hx, hb, hml, hown, hts⟩ (c_X5_fails l D cA n am S H.size 2 hW (by omega)) (cwV 1 hts gX5_addDoor_X5_fails rfl rfl rfl (by decide +kernel) ⟨Nat.le_of_ble_eq_true rfl, Nat.le_of_ble_eq_true rfl⟩) hK hI (hW.1 0 (by decide)) rfl rfl rfl hl.1 rfl (Nat.le_of_ble_eq_true rfl) dX5_addDoor_36 ⟨Nat.le_of_ble_eq_true rfl, Nat.le_of_ble_eq_true rfl⟩) hI (fun z62 u9 H locs hz63 hp64 hI hfr => ?_)
          clear hfr
          obtain ⟨rfl, rfl⟩ := hp64
          obtain ⟨S65, eS65⟩ : ∃ z, z = up3 S 0 0 24 2 := ⟨_, rfl⟩
          rw [← eS65] at hI
          have hW : mW n S65 := by rw [eS65]; exact hW.put rfl
          refine z_if_eq (tgt := 44) hx hb dX5_addDoor_39 (by decide) (by omega) (fun c66 => ?_) (fun c66 => ?_)
          · skip
            have c66 := zB_0 c66
            omega
          · skip
            have c66 := zB_1 c66
            refine z_iconst hx hb dX5_addDoor_42 ?_
            exact (ze_i (u' := (n, am, S65)) (z := 0) hx hb hr rfl hI (by omega) (Or.inl ⟨by rw [(show kAddDoor S a = 2 by unfold kAddDoor; repeat (first | rw [if_pos (by first | omega | assumption)] | rw [if_neg (by first | omega | assumption)]))]; decide, by rw [(show kAddDoor S a = 2 by unfold kAddDoor; repeat (first | rw [if_pos (by first | omega | assumption)] | rw [if_neg (by first | omega | assumption)])), eS65]⟩) (Nat.le_of_ble_eq_true rfl) (Nat.le_of_ble_eq_true rfl) dX5_addDoor_43 hlocks)
      · skip
        refine z_iconst hx hb dX5_addDoor_19 ?_
        refine lv_goto (tgt := 36) hx hb dX5_addDoor_20 (by decide) ?_
        refine zc_i (zrV (As := [.int (iZ 1)]) (rest := []) (κ := 0) (i := 0) ⟨hx, hb, hml, hown, hts⟩ (c_X5_fails l D cA n am S H.size 1 hW (by omega)) (cwV 1 hts gX5_addDoor_X5_fails rfl rfl rfl (by decide +kernel) ⟨Nat.le_of_ble_eq_true rfl, Nat.le_of_ble_eq_true rfl⟩) hK hI (hW.1 0 (by decide)) rfl rfl rfl hl.1 rfl (Nat.le_of_ble_eq_true rfl) dX5_addDoor_36 ⟨Nat.le_of_ble_eq_true rfl, Nat.le_of_ble_eq_true rfl⟩) hI (fun z67 u9 H locs hz68 hp69 hI hfr => ?_)
        clear hfr
        obtain ⟨rfl, rfl⟩ := hp69
        obtain ⟨S70, eS70⟩ : ∃ z, z = up3 S 0 0 24 1 := ⟨_, rfl⟩
        rw [← eS70] at hI
        have hW : mW n S70 := by rw [eS70]; exact hW.put rfl
        refine z_if_eq (tgt := 44) hx hb dX5_addDoor_39 (by decide) (by omega) (fun c71 => ?_) (fun c71 => ?_)
        · skip
          have c71 := zB_0 c71
          omega
        · skip
          have c71 := zB_1 c71
          refine z_iconst hx hb dX5_addDoor_42 ?_
          exact (ze_i (u' := (n, am, S70)) (z := 0) hx hb hr rfl hI (by omega) (Or.inl ⟨by rw [(show kAddDoor S a = 1 by unfold kAddDoor; repeat (first | rw [if_pos (by first | omega | assumption)] | rw [if_neg (by first | omega | assumption)]))]; decide, by rw [(show kAddDoor S a = 1 by unfold kAddDoor; repeat (first | rw [if_pos (by first | omega | assumption)] | rw [if_neg (by first | omega | assumption)])), eS70]⟩) (Nat.le_of_ble_eq_true rfl) (Nat.le_of_ble_eq_true rfl) dX5_addDoor_43 hlocks)
set_option maxHeartbeats 4000000 in
set_option maxRecDepth 100000 in
theorem c_X5_setTolerance (l : Launch) (D : va_G) (cA : Nat → ClassId) (n : Nat → Nat) (am : ts_Am) (S : ts_St) (sz : Nat) (a : Int) (hW : mW n S) (ha0 : iR a) (hR : mR S) : Met l yX5_setTolerance wsX5_setTolerance ({ frames := 1, cells := 0, slots := 0, locals := 22 } : Room) (va_Pc [.ref (am 0 0), .int (iZ a)] (zP TM D cA (n, am, S) sz)) (zQi TM D cA (n, am, S) sz (fun z u => (¬ kSetTol a = 0 ∧ u = (n, am, up3 S 0 0 24 (kSetTol a))) ∨ (kSetTol a = 0 ∧ z = S 0 0 16 ∧ u = (n, am, gSetTol S a)))) 0 0 (ts_A (n, am, S) sz) := by
  refine zM_of (by decide) rfl (Nat.le_of_ble_eq_true rfl) ?_
  intro p e s m below meth c hx hb hr hts hown hlocks hml hname hK hsz H locs hI ls hl
  subst hsz
  have hown : s.vm.findClass RX5 = some m.cls := hown
  have hl : lv_has ls 3 [(0, .ref (am 0 0)), (1, .int (iZ a))] := hl
  have f51 := hts (.fieldLink RX5 51 "DockyardSlotsModel" "tolerance" "I") (by decide +kernel)
  have LX5 : ∀ w ∈ wsX50, w.before [.ref (am 0 0), .int (iZ a)].toArray s = true := fun w h => hts w (List.mem_cons_of_mem _ (List.mem_append_right _ h))
  have hR1 := hR.1
  refine lv_aload_n hx hb dX5_setTolerance_0 rfl (lv_at hl 0 rfl) ?_
  refine lv_iload_n hx hb dX5_setTolerance_1 rfl (lv_at hl 1 rfl) ?_
  refine z_iconst hx hb dX5_setTolerance_2 ?_
  refine z_bipush hx hb dX5_setTolerance_3 (by decide) ?_
  refine zc_i (zrS (As := [.int (iZ a), .int (iZ 0), .int (iZ 9)]) (rest := [.ref (am 0 0)]) ⟨hx, hb, hml, hown, hts⟩ (c_X5_in l D cA n am S H.size a 0 9 (by omega) (by omega) (by omega)) (va_cwS 3 hts gX5_setTolerance_X5_in rfl rfl rfl (by decide +kernel) ⟨Nat.le_of_ble_eq_true rfl, Nat.le_of_ble_eq_true rfl⟩) hK hI rfl hl.1 rfl (Nat.le_of_ble_eq_true rfl) dX5_setTolerance_5 ⟨Nat.le_of_ble_eq_true rfl, Nat.le_of_ble_eq_true rfl⟩) hI (fun z1 u9 H locs hz2 hp3 hI hfr => ?_)
  clear hfr
  obtain ⟨rfl, rfl⟩ := hp3
  refine z_if_eq (tgt := 15) hx hb dX5_setTolerance_8 (by decide) (by omega) (fun c4 => ?_) (fun c4 => ?_)
  · skip
    have c4 := zB_0 c4
    refine z_iconst hx hb dX5_setTolerance_15 ?_
    refine zc_i (zrV (As := [.int (iZ 1)]) (rest := []) (κ := 0) (i := 0) ⟨hx, hb, hml, hown, hts⟩ (c_X5_fails l D cA n am S H.size 1 hW (by omega)) (cwV 1 hts gX5_setTolerance_X5_fails rfl rfl rfl (by decide +kernel) ⟨Nat.le_of_ble_eq_true rfl, Nat.le_of_ble_eq_true rfl⟩) hK hI (hW.1 0 (by decide)) rfl rfl rfl hl.1 rfl (Nat.le_of_ble_eq_true rfl) dX5_setTolerance_16 ⟨Nat.le_of_ble_eq_true rfl, Nat.le_of_ble_eq_true rfl⟩) hI (fun z5 u9 H locs hz6 hp7 hI hfr => ?_)
    clear hfr
    obtain ⟨rfl, rfl⟩ := hp7
    obtain ⟨S8, eS8⟩ : ∃ z, z = up3 S 0 0 24 1 := ⟨_, rfl⟩
    rw [← eS8] at hI
    have hW : mW n S8 := by rw [eS8]; exact hW.put rfl
    refine z_if_eq (tgt := 24) hx hb dX5_setTolerance_19 (by decide) (by omega) (fun c9 => ?_) (fun c9 => ?_)
    · skip
      have c9 := zB_0 c9
      omega
    · skip
      have c9 := zB_1 c9
      refine z_iconst hx hb dX5_setTolerance_22 ?_
      exact (ze_i (u' := (n, am, S8)) (z := 0) hx hb hr rfl hI (by omega) (Or.inl ⟨by rw [(show kSetTol a = 1 by unfold kSetTol; repeat (first | rw [if_pos (by first | omega | assumption)] | rw [if_neg (by first | omega | assumption)]))]; decide, by rw [(show kSetTol a = 1 by unfold kSetTol; repeat (first | rw [if_pos (by first | omega | assumption)] | rw [if_neg (by first | omega | assumption)])), eS8]⟩) (Nat.le_of_ble_eq_true rfl) (Nat.le_of_ble_eq_true rfl) dX5_setTolerance_23 hlocks)
  · skip
    have c4 := zB_1 c4
    refine z_iconst hx hb dX5_setTolerance_11 ?_
    refine lv_goto (tgt := 16) hx hb dX5_setTolerance_12 (by decide) ?_
    refine zc_i (zrV (As := [.int (iZ 0)]) (rest := []) (κ := 0) (i := 0) ⟨hx, hb, hml, hown, hts⟩ (c_X5_fails l D cA n am S H.size 0 hW (by omega)) (cwV 1 hts gX5_setTolerance_X5_fails rfl rfl rfl (by decide +kernel) ⟨Nat.le_of_ble_eq_true rfl, Nat.le_of_ble_eq_true rfl⟩) hK hI (hW.1 0 (by decide)) rfl rfl rfl hl.1 rfl (Nat.le_of_ble_eq_true rfl) dX5_setTolerance_16 ⟨Nat.le_of_ble_eq_true rfl, Nat.le_of_ble_eq_true rfl⟩) hI (fun z10 u9 H locs hz11 hp12 hI hfr => ?_)
    clear hfr
    obtain ⟨rfl, rfl⟩ := hp12
    obtain ⟨S13, eS13⟩ : ∃ z, z = up3 S 0 0 24 0 := ⟨_, rfl⟩
    rw [← eS13] at hI
    have hW : mW n S13 := by rw [eS13]; exact hW.put rfl
    refine z_if_eq (tgt := 24) hx hb dX5_setTolerance_19 (by decide) (by omega) (fun c14 => ?_) (fun c14 => ?_)
    · skip
      have c14 := zB_0 c14
      refine lv_aload_n hx hb dX5_setTolerance_24 rfl (lv_at hl 0 rfl) ?_
      refine zg_i (κ := 0) (i := 0) (k := 16) hx hb LX5 hown hK hI (hW.1 0 (by decide)) rfl rfl (by decide) rfl f51 (fun _ h9 => h9) dX5_setTolerance_25 (by rw [eS13, up3_n (by omega)]) (fun b15 => ?_)
      refine lv_istore_n (lv' := [(2, .int (iZ (S 0 0 16))), (0, .ref (am 0 0)), (1, .int (iZ a))]) hx hb dX5_setTolerance_28 rfl hl (by decide) rfl (fun ls hl => ?_)
      refine lv_aload_n hx hb dX5_setTolerance_29 rfl (lv_at hl 1 rfl) ?_
      refine lv_iload_n hx hb dX5_setTolerance_30 rfl (lv_at hl 2 rfl) ?_
      refine zp_i (κ := 0) (i := 0) (k := 16) hx hb LX5 tyX5 tyX5_ok nmX5 hown hK hI (hW.1 0 (by decide)) rfl rfl (by decide) rfl f51 (fun _ h9 => h9) rfl rfl rfl (by omega) dX5_setTolerance_31 (fun H locs hI => ?_)
      obtain ⟨S16, eS16⟩ : ∃ z, z = up3 S13 0 0 16 a := ⟨_, rfl⟩
      rw [← eS16] at hI
      have hW : mW n S16 := by rw [eS16]; exact hW.put rfl
      refine lv_iload_n hx hb dX5_setTolerance_34 rfl (lv_at hl 0 rfl) ?_
      exact (ze_i (u' := (n, am, S16)) (z := S 0 0 16) hx hb hr rfl hI (by omega) (Or.inr ⟨(show kSetTol a = 0 by unfold kSetTol; repeat (first | rw [if_pos (by first | omega | assumption)] | rw [if_neg (by first | omega | assumption)])), rfl, by rw [eS16, eS13]; rfl⟩) (Nat.le_of_ble_eq_true rfl) (Nat.le_of_ble_eq_true rfl) dX5_setTolerance_35 hlocks)
    · skip
      have c14 := zB_1 c14
      omega
set_option maxHeartbeats 4000000 in
set_option maxRecDepth 100000 in
theorem c_X5_setCharges (l : Launch) (D : va_G) (cA : Nat → ClassId) (n : Nat → Nat) (am : ts_Am) (S : ts_St) (sz : Nat) (a b d v : Int) (hW : mW n S) (ha0 : iR a) (hb0 : iR b) (hd0 : iR d) (hv0 : iR v) (hR : mR S) : Met l yX5_setCharges wsX5_setCharges ({ frames := 1, cells := 0, slots := 0, locals := 22 } : Room) (va_Pc [.ref (am 0 0), .int (iZ a), .int (iZ b), .int (iZ d), .int (iZ v)] (zP TM D cA (n, am, S) sz)) (zQi TM D cA (n, am, S) sz (fun z u => (¬ kSetChg a b d v = 0 ∧ u = (n, am, up3 S 0 0 24 (kSetChg a b d v))) ∨ (kSetChg a b d v = 0 ∧ z = S 0 0 17 ∧ u = (n, am, gSetChg S a b d v)))) 0 0 (ts_A (n, am, S) sz) := by
  refine zM_of (by decide) rfl (Nat.le_of_ble_eq_true rfl) ?_
  intro p e s m below meth c hx hb hr hts hown hlocks hml hname hK hsz H locs hI ls hl
  subst hsz
  have hown : s.vm.findClass RX5 = some m.cls := hown
  have hl : lv_has ls 6 [(0, .ref (am 0 0)), (1, .int (iZ a)), (2, .int (iZ b)), (3, .int (iZ d)), (4, .int (iZ v))] := hl
  have f55 := hts (.fieldLink RX5 55 "DockyardSlotsModel" "free" "I") (by decide +kernel)
  have f58 := hts (.fieldLink RX5 58 "DockyardSlotsModel" "rate" "I") (by decide +kernel)
  have f61 := hts (.fieldLink RX5 61 "DockyardSlotsModel" "paidHours" "I") (by decide +kernel)
  have f64 := hts (.fieldLink RX5 64 "DockyardSlotsModel" "laterRate" "I") (by decide +kernel)
  have LX5 : ∀ w ∈ wsX50, w.before [.ref (am 0 0), .int (iZ a), .int (iZ b), .int (iZ d), .int (iZ v)].toArray s = true := fun w h => hts w (List.mem_cons_of_mem _ (List.mem_append_right _ h))
  have hR1 := hR.1
  refine lv_aload_n hx hb dX5_setCharges_0 rfl (lv_at hl 0 rfl) ?_
  refine lv_iload_n hx hb dX5_setCharges_1 rfl (lv_at hl 1 rfl) ?_
  refine z_iconst hx hb dX5_setCharges_2 ?_
  refine z_bipush hx hb dX5_setCharges_3 (by decide) ?_
  refine zc_i (zrS (As := [.int (iZ a), .int (iZ 0), .int (iZ 24)]) (rest := [.ref (am 0 0)]) ⟨hx, hb, hml, hown, hts⟩ (c_X5_in l D cA n am S H.size a 0 24 (by omega) (by omega) (by omega)) (va_cwS 3 hts gX5_setCharges_X5_in rfl rfl rfl (by decide +kernel) ⟨Nat.le_of_ble_eq_true rfl, Nat.le_of_ble_eq_true rfl⟩) hK hI rfl hl.1 rfl (Nat.le_of_ble_eq_true rfl) dX5_setCharges_5 ⟨Nat.le_of_ble_eq_true rfl, Nat.le_of_ble_eq_true rfl⟩) hI (fun z1 u9 H locs hz2 hp3 hI hfr => ?_)
  clear hfr
  obtain ⟨rfl, rfl⟩ := hp3
  refine z_if_eq (tgt := 46) hx hb dX5_setCharges_8 (by decide) (by omega) (fun c4 => ?_) (fun c4 => ?_)
  · skip
    have c4 := zB_0 c4
    refine z_iconst hx hb dX5_setCharges_46 ?_
    refine zc_i (zrV (As := [.int (iZ 1)]) (rest := []) (κ := 0) (i := 0) ⟨hx, hb, hml, hown, hts⟩ (c_X5_fails l D cA n am S H.size 1 hW (by omega)) (cwV 1 hts gX5_setCharges_X5_fails rfl rfl rfl (by decide +kernel) ⟨Nat.le_of_ble_eq_true rfl, Nat.le_of_ble_eq_true rfl⟩) hK hI (hW.1 0 (by decide)) rfl rfl rfl hl.1 rfl (Nat.le_of_ble_eq_true rfl) dX5_setCharges_47 ⟨Nat.le_of_ble_eq_true rfl, Nat.le_of_ble_eq_true rfl⟩) hI (fun z5 u9 H locs hz6 hp7 hI hfr => ?_)
    clear hfr
    obtain ⟨rfl, rfl⟩ := hp7
    obtain ⟨S8, eS8⟩ : ∃ z, z = up3 S 0 0 24 1 := ⟨_, rfl⟩
    rw [← eS8] at hI
    have hW : mW n S8 := by rw [eS8]; exact hW.put rfl
    refine z_if_eq (tgt := 55) hx hb dX5_setCharges_50 (by decide) (by omega) (fun c9 => ?_) (fun c9 => ?_)
    · skip
      have c9 := zB_0 c9
      omega
    · skip
      have c9 := zB_1 c9
      refine z_iconst hx hb dX5_setCharges_53 ?_
      exact (ze_i (u' := (n, am, S8)) (z := 0) hx hb hr rfl hI (by omega) (Or.inl ⟨by rw [(show kSetChg a b d v = 1 by unfold kSetChg; repeat (first | rw [if_pos (by first | omega | assumption)] | rw [if_neg (by first | omega | assumption)]))]; decide, by rw [(show kSetChg a b d v = 1 by unfold kSetChg; repeat (first | rw [if_pos (by first | omega | assumption)] | rw [if_neg (by first | omega | assumption)])), eS8]⟩) (Nat.le_of_ble_eq_true rfl) (Nat.le_of_ble_eq_true rfl) dX5_setCharges_54 hlocks)
  · skip
    have c4 := zB_1 c4
    refine lv_iload_n hx hb dX5_setCharges_11 rfl (lv_at hl 2 rfl) ?_
    refine z_iconst hx hb dX5_setCharges_12 ?_
    refine z_bipush hx hb dX5_setCharges_13 (by decide) ?_
    refine zc_i (zrS (As := [.int (iZ b), .int (iZ 0), .int (iZ 99)]) (rest := [.ref (am 0 0)]) ⟨hx, hb, hml, hown, hts⟩ (c_X5_in l D cA n am S H.size b 0 99 (by omega) (by omega) (by omega)) (va_cwS 3 hts gX5_setCharges_X5_in rfl rfl rfl (by decide +kernel) ⟨Nat.le_of_ble_eq_true rfl, Nat.le_of_ble_eq_true rfl⟩) hK hI rfl hl.1 rfl (Nat.le_of_ble_eq_true rfl) dX5_setCharges_15 ⟨Nat.le_of_ble_eq_true rfl, Nat.le_of_ble_eq_true rfl⟩) hI (fun z10 u9 H locs hz11 hp12 hI hfr => ?_)
    clear hfr
    obtain ⟨rfl, rfl⟩ := hp12
    refine z_if_eq (tgt := 46) hx hb dX5_setCharges_18 (by decide) (by omega) (fun c13 => ?_) (fun c13 => ?_)
    · skip
      have c13 := zB_0 c13
      refine z_iconst hx hb dX5_setCharges_46 ?_
      refine zc_i (zrV (As := [.int (iZ 1)]) (rest := []) (κ := 0) (i := 0) ⟨hx, hb, hml, hown, hts⟩ (c_X5_fails l D cA n am S H.size 1 hW (by omega)) (cwV 1 hts gX5_setCharges_X5_fails rfl rfl rfl (by decide +kernel) ⟨Nat.le_of_ble_eq_true rfl, Nat.le_of_ble_eq_true rfl⟩) hK hI (hW.1 0 (by decide)) rfl rfl rfl hl.1 rfl (Nat.le_of_ble_eq_true rfl) dX5_setCharges_47 ⟨Nat.le_of_ble_eq_true rfl, Nat.le_of_ble_eq_true rfl⟩) hI (fun z14 u9 H locs hz15 hp16 hI hfr => ?_)
      clear hfr
      obtain ⟨rfl, rfl⟩ := hp16
      obtain ⟨S17, eS17⟩ : ∃ z, z = up3 S 0 0 24 1 := ⟨_, rfl⟩
      rw [← eS17] at hI
      have hW : mW n S17 := by rw [eS17]; exact hW.put rfl
      refine z_if_eq (tgt := 55) hx hb dX5_setCharges_50 (by decide) (by omega) (fun c18 => ?_) (fun c18 => ?_)
      · skip
        have c18 := zB_0 c18
        omega
      · skip
        have c18 := zB_1 c18
        refine z_iconst hx hb dX5_setCharges_53 ?_
        exact (ze_i (u' := (n, am, S17)) (z := 0) hx hb hr rfl hI (by omega) (Or.inl ⟨by rw [(show kSetChg a b d v = 1 by unfold kSetChg; repeat (first | rw [if_pos (by first | omega | assumption)] | rw [if_neg (by first | omega | assumption)]))]; decide, by rw [(show kSetChg a b d v = 1 by unfold kSetChg; repeat (first | rw [if_pos (by first | omega | assumption)] | rw [if_neg (by first | omega | assumption)])), eS17]⟩) (Nat.le_of_ble_eq_true rfl) (Nat.le_of_ble_eq_true rfl) dX5_setCharges_54 hlocks)
    · skip
      have c13 := zB_1 c13
      refine lv_iload_n hx hb dX5_setCharges_21 rfl (lv_at hl 3 rfl) ?_
      refine z_iconst hx hb dX5_setCharges_22 ?_
      refine z_bipush hx hb dX5_setCharges_23 (by decide) ?_
      refine zc_i (zrS (As := [.int (iZ d), .int (iZ 0), .int (iZ 24)]) (rest := [.ref (am 0 0)]) ⟨hx, hb, hml, hown, hts⟩ (c_X5_in l D cA n am S H.size d 0 24 (by omega) (by omega) (by omega)) (va_cwS 3 hts gX5_setCharges_X5_in rfl rfl rfl (by decide +kernel) ⟨Nat.le_of_ble_eq_true rfl, Nat.le_of_ble_eq_true rfl⟩) hK hI rfl hl.1 rfl (Nat.le_of_ble_eq_true rfl) dX5_setCharges_25 ⟨Nat.le_of_ble_eq_true rfl, Nat.le_of_ble_eq_true rfl⟩) hI (fun z19 u9 H locs hz20 hp21 hI hfr => ?_)
      clear hfr
      obtain ⟨rfl, rfl⟩ := hp21
      refine z_if_eq (tgt := 46) hx hb dX5_setCharges_28 (by decide) (by omega) (fun c22 => ?_) (fun c22 => ?_)
      · skip
        have c22 := zB_0 c22
        refine z_iconst hx hb dX5_setCharges_46 ?_
        refine zc_i (zrV (As := [.int (iZ 1)]) (rest := []) (κ := 0) (i := 0) ⟨hx, hb, hml, hown, hts⟩ (c_X5_fails l D cA n am S H.size 1 hW (by omega)) (cwV 1 hts gX5_setCharges_X5_fails rfl rfl rfl (by decide +kernel) ⟨Nat.le_of_ble_eq_true rfl, Nat.le_of_ble_eq_true rfl⟩) hK hI (hW.1 0 (by decide)) rfl rfl rfl hl.1 rfl (Nat.le_of_ble_eq_true rfl) dX5_setCharges_47 ⟨Nat.le_of_ble_eq_true rfl, Nat.le_of_ble_eq_true rfl⟩) hI (fun z23 u9 H locs hz24 hp25 hI hfr => ?_)
        clear hfr
        obtain ⟨rfl, rfl⟩ := hp25
        obtain ⟨S26, eS26⟩ : ∃ z, z = up3 S 0 0 24 1 := ⟨_, rfl⟩
        rw [← eS26] at hI
        have hW : mW n S26 := by rw [eS26]; exact hW.put rfl
        refine z_if_eq (tgt := 55) hx hb dX5_setCharges_50 (by decide) (by omega) (fun c27 => ?_) (fun c27 => ?_)
        · skip
          have c27 := zB_0 c27
          omega
        · skip
          have c27 := zB_1 c27
          refine z_iconst hx hb dX5_setCharges_53 ?_
          exact (ze_i (u' := (n, am, S26)) (z := 0) hx hb hr rfl hI (by omega) (Or.inl ⟨by rw [(show kSetChg a b d v = 1 by unfold kSetChg; repeat (first | rw [if_pos (by first | omega | assumption)] | rw [if_neg (by first | omega | assumption)]))]; decide, by rw [(show kSetChg a b d v = 1 by unfold kSetChg; repeat (first | rw [if_pos (by first | omega | assumption)] | rw [if_neg (by first | omega | assumption)])), eS26]⟩) (Nat.le_of_ble_eq_true rfl) (Nat.le_of_ble_eq_true rfl) dX5_setCharges_54 hlocks)
      · skip
        have c22 := zB_1 c22
        refine lv_iload hx hb dX5_setCharges_31 (lv_at hl 4 rfl) ?_
        refine z_iconst hx hb dX5_setCharges_33 ?_
        refine z_bipush hx hb dX5_setCharges_34 (by decide) ?_
        refine zc_i (zrS (As := [.int (iZ v), .int (iZ 0), .int (iZ 99)]) (rest := [.ref (am 0 0)]) ⟨hx, hb, hml, hown, hts⟩ (c_X5_in l D cA n am S H.size v 0 99 (by omega) (by omega) (by omega)) (va_cwS 3 hts gX5_setCharges_X5_in rfl rfl rfl (by decide +kernel) ⟨Nat.le_of_ble_eq_true rfl, Nat.le_of_ble_eq_true rfl⟩) hK hI rfl hl.1 rfl (Nat.le_of_ble_eq_true rfl) dX5_setCharges_36 ⟨Nat.le_of_ble_eq_true rfl, Nat.le_of_ble_eq_true rfl⟩) hI (fun z28 u9 H locs hz29 hp30 hI hfr => ?_)
        clear hfr
        obtain ⟨rfl, rfl⟩ := hp30
        refine z_if_eq (tgt := 46) hx hb dX5_setCharges_39 (by decide) (by omega) (fun c31 => ?_) (fun c31 => ?_)
        · skip
          have c31 := zB_0 c31
          refine z_iconst hx hb dX5_setCharges_46 ?_
          refine zc_i (zrV (As := [.int (iZ 1)]) (rest := []) (κ := 0) (i := 0) ⟨hx, hb, hml, hown, hts⟩ (c_X5_fails l D cA n am S H.size 1 hW (by omega)) (cwV 1 hts gX5_setCharges_X5_fails rfl rfl rfl (by decide +kernel) ⟨Nat.le_of_ble_eq_true rfl, Nat.le_of_ble_eq_true rfl⟩) hK hI (hW.1 0 (by decide)) rfl rfl rfl hl.1 rfl (Nat.le_of_ble_eq_true rfl) dX5_setCharges_47 ⟨Nat.le_of_ble_eq_true rfl, Nat.le_of_ble_eq_true rfl⟩) hI (fun z32 u9 H locs hz33 hp34 hI hfr => ?_)
          clear hfr
          obtain ⟨rfl, rfl⟩ := hp34
          obtain ⟨S35, eS35⟩ : ∃ z, z = up3 S 0 0 24 1 := ⟨_, rfl⟩
          rw [← eS35] at hI
          have hW : mW n S35 := by rw [eS35]; exact hW.put rfl
          refine z_if_eq (tgt := 55) hx hb dX5_setCharges_50 (by decide) (by omega) (fun c36 => ?_) (fun c36 => ?_)
          · skip
            have c36 := zB_0 c36
            omega
          · skip
            have c36 := zB_1 c36
            refine z_iconst hx hb dX5_setCharges_53 ?_
            exact (ze_i (u' := (n, am, S35)) (z := 0) hx hb hr rfl hI (by omega) (Or.inl ⟨by rw [(show kSetChg a b d v = 1 by unfold kSetChg; repeat (first | rw [if_pos (by first | omega | assumption)] | rw [if_neg (by first | omega | assumption)]))]; decide, by rw [(show kSetChg a b d v = 1 by unfold kSetChg; repeat (first | rw [if_pos (by first | omega | assumption)] | rw [if_neg (by first | omega | assumption)])), eS35]⟩) (Nat.le_of_ble_eq_true rfl) (Nat.le_of_ble_eq_true rfl) dX5_setCharges_54 hlocks)
        · skip
          have c31 := zB_1 c31
          refine z_iconst hx hb dX5_setCharges_42 ?_
          refine lv_goto (tgt := 47) hx hb dX5_setCharges_43 (by decide) ?_
          refine zc_i (zrV (As := [.int (iZ 0)]) (rest := []) (κ := 0) (i := 0) ⟨hx, hb, hml, hown, hts⟩ (c_X5_fails l D cA n am S H.size 0 hW (by omega)) (cwV 1 hts gX5_setCharges_X5_fails rfl rfl rfl (by decide +kernel) ⟨Nat.le_of_ble_eq_true rfl, Nat.le_of_ble_eq_true rfl⟩) hK hI (hW.1 0 (by decide)) rfl rfl rfl hl.1 rfl (Nat.le_of_ble_eq_true rfl) dX5_setCharges_47 ⟨Nat.le_of_ble_eq_true rfl, Nat.le_of_ble_eq_true rfl⟩) hI (fun z37 u9 H locs hz38 hp39 hI hfr => ?_)
          clear hfr
          obtain ⟨rfl, rfl⟩ := hp39
          obtain ⟨S40, eS40⟩ : ∃ z, z = up3 S 0 0 24 0 := ⟨_, rfl⟩
          rw [← eS40] at hI
          have hW : mW n S40 := by rw [eS40]; exact hW.put rfl
          refine z_if_eq (tgt := 55) hx hb dX5_setCharges_50 (by decide) (by omega) (fun c41 => ?_) (fun c41 => ?_)
          · skip
            have c41 := zB_0 c41
            refine lv_aload_n hx hb dX5_setCharges_55 rfl (lv_at hl 0 rfl) ?_
            refine zg_i (κ := 0) (i := 0) (k := 17) hx hb LX5 hown hK hI (hW.1 0 (by decide)) rfl rfl (by decide) rfl f55 (fun _ h9 => h9) dX5_setCharges_56 (by rw [eS40, up3_n (by omega)]) (fun b42 => ?_)
            refine lv_istore (lv' := [(5, .int (iZ (S 0 0 17))), (0, .ref (am 0 0)), (1, .int (iZ a)), (2, .int (iZ b)), (3, .int (iZ d)), (4, .int (iZ v))]) hx hb dX5_setCharges_59 hl (by decide) rfl (fun ls hl => ?_)
            refine lv_aload_n hx hb dX5_setCharges_61 rfl (lv_at hl 1 rfl) ?_
            refine lv_iload_n hx hb dX5_setCharges_62 rfl (lv_at hl 2 rfl) ?_
            refine zp_i (κ := 0) (i := 0) (k := 17) hx hb LX5 tyX5 tyX5_ok nmX5 hown hK hI (hW.1 0 (by decide)) rfl rfl (by decide) rfl f55 (fun _ h9 => h9) rfl rfl rfl (by omega) dX5_setCharges_63 (fun H locs hI => ?_)
            obtain ⟨S43, eS43⟩ : ∃ z, z = up3 S40 0 0 17 a := ⟨_, rfl⟩
            rw [← eS43] at hI
            have hW : mW n S43 := by rw [eS43]; exact hW.put rfl
            refine lv_aload_n hx hb dX5_setCharges_66 rfl (lv_at hl 1 rfl) ?_
            refine lv_iload_n hx hb dX5_setCharges_67 rfl (lv_at hl 3 rfl) ?_
            refine zp_i (κ := 0) (i := 0) (k := 18) hx hb LX5 tyX5 tyX5_ok nmX5 hown hK hI (hW.1 0 (by decide)) rfl rfl (by decide) rfl f58 (fun _ h9 => h9) rfl rfl rfl (by omega) dX5_setCharges_68 (fun H locs hI => ?_)
            obtain ⟨S44, eS44⟩ : ∃ z, z = up3 S43 0 0 18 b := ⟨_, rfl⟩
            rw [← eS44] at hI
            have hW : mW n S44 := by rw [eS44]; exact hW.put rfl
            refine lv_aload_n hx hb dX5_setCharges_71 rfl (lv_at hl 1 rfl) ?_
            refine lv_iload_n hx hb dX5_setCharges_72 rfl (lv_at hl 4 rfl) ?_
            refine zp_i (κ := 0) (i := 0) (k := 19) hx hb LX5 tyX5 tyX5_ok nmX5 hown hK hI (hW.1 0 (by decide)) rfl rfl (by decide) rfl f61 (fun _ h9 => h9) rfl rfl rfl (by omega) dX5_setCharges_73 (fun H locs hI => ?_)
            obtain ⟨S45, eS45⟩ : ∃ z, z = up3 S44 0 0 19 d := ⟨_, rfl⟩
            rw [← eS45] at hI
            have hW : mW n S45 := by rw [eS45]; exact hW.put rfl
            refine lv_aload_n hx hb dX5_setCharges_76 rfl (lv_at hl 1 rfl) ?_
            refine lv_iload hx hb dX5_setCharges_77 (lv_at hl 5 rfl) ?_
            refine zp_i (κ := 0) (i := 0) (k := 20) hx hb LX5 tyX5 tyX5_ok nmX5 hown hK hI (hW.1 0 (by decide)) rfl rfl (by decide) rfl f64 (fun _ h9 => h9) rfl rfl rfl (by omega) dX5_setCharges_79 (fun H locs hI => ?_)
            obtain ⟨S46, eS46⟩ : ∃ z, z = up3 S45 0 0 20 v := ⟨_, rfl⟩
            rw [← eS46] at hI
            have hW : mW n S46 := by rw [eS46]; exact hW.put rfl
            refine lv_iload hx hb dX5_setCharges_82 (lv_at hl 0 rfl) ?_
            exact (ze_i (u' := (n, am, S46)) (z := S 0 0 17) hx hb hr rfl hI (by omega) (Or.inr ⟨(show kSetChg a b d v = 0 by unfold kSetChg; repeat (first | rw [if_pos (by first | omega | assumption)] | rw [if_neg (by first | omega | assumption)])), rfl, by rw [eS46, eS45, eS44, eS43, eS40]; rfl⟩) (Nat.le_of_ble_eq_true rfl) (Nat.le_of_ble_eq_true rfl) dX5_setCharges_84 hlocks)
          · skip
            have c41 := zB_1 c41
            omega
set_option maxHeartbeats 4000000 in
set_option maxRecDepth 100000 in
theorem c_X5_book (l : Launch) (D : va_G) (cA : Nat → ClassId) (n : Nat → Nat) (am : ts_Am) (S : ts_St) (sz : Nat) (a b d : Int) (hW : mW n S) (ha0 : iR a) (hb0 : 0 ≤ b ∧ b < 65536) (hd0 : iR d) (hR : mR S) : Met l yX5_book wsX5_book ({ frames := 1, cells := 0, slots := 0, locals := 22 } : Room) (va_Pc [.ref (am 0 0), .int (iZ a), .int (iZ b), .int (iZ d)] (zP TM D cA (n, am, S) sz)) (zQi TM D cA (n, am, S) sz (fun z u => (¬ kBook S a b d = 0 ∧ u = (n, am, up3 S 0 0 24 (kBook S a b d))) ∨ (kBook S a b d = 0 ∧ z = S 0 0 8 ∧ u = (n, am, gBook S a b d)))) 0 0 (ts_A (n, am, S) sz) := by
  refine zM_of (by decide) rfl (Nat.le_of_ble_eq_true rfl) ?_
  intro p e s m below meth c hx hb hr hts hown hlocks hml hname hK hsz H locs hI ls hl
  subst hsz
  have hown : s.vm.findClass RX5 = some m.cls := hown
  have hl : lv_has ls 4 [(0, .ref (am 0 0)), (1, .int (iZ a)), (2, .int (iZ b)), (3, .int (iZ d))] := hl
  have f30 := hts (.fieldLink RX5 30 "DockyardSlotsModel" "hours" "[I") (by decide +kernel)
  have f33 := hts (.fieldLink RX5 33 "DockyardSlotsModel" "kinds" "[C") (by decide +kernel)
  have f36 := hts (.fieldLink RX5 36 "DockyardSlotsModel" "works" "[I") (by decide +kernel)
  have f39 := hts (.fieldLink RX5 39 "DockyardSlotsModel" "states" "[C") (by decide +kernel)
  have f77 := hts (.fieldLink RX5 77 "DockyardSlotsModel" "booked" "I") (by decide +kernel)
  have f87 := hts (.fieldLink RX5 87 "DockyardSlotsModel" "time" "I") (by decide +kernel)
  have LX5 : ∀ w ∈ wsX50, w.before [.ref (am 0 0), .int (iZ a), .int (iZ b), .int (iZ d)].toArray s = true := fun w h => hts w (List.mem_cons_of_mem _ (List.mem_append_left _ (List.mem_append_right _ h)))
  have hR1 := hR.1
  refine lv_aload_n hx hb dX5_book_0 rfl (lv_at hl 0 rfl) ?_
  refine lv_iload_n hx hb dX5_book_1 rfl (lv_at hl 1 rfl) ?_
  refine lv_aload_n hx hb dX5_book_2 rfl (lv_at hl 0 rfl) ?_
  refine zg_i (κ := 0) (i := 0) (k := 21) hx hb LX5 hown hK hI (hW.1 0 (by decide)) rfl rfl (by decide) rfl f87 (fun _ h9 => h9) dX5_book_3 rfl (fun b1 => ?_)
  refine z_sipush hx hb dX5_book_6 (by decide) ?_
  refine zc_i (zrS (As := [.int (iZ a), .int (iZ (S 0 0 21)), .int (iZ 999)]) (rest := [.ref (am 0 0)]) ⟨hx, hb, hml, hown, hts⟩ (c_X5_in l D cA n am S H.size a (S 0 0 21) 999 (by omega) (by omega) (by omega)) (va_cwS 3 hts gX5_book_X5_in rfl rfl rfl (by decide +kernel) ⟨Nat.le_of_ble_eq_true rfl, Nat.le_of_ble_eq_true rfl⟩) hK hI rfl hl.1 rfl (Nat.le_of_ble_eq_true rfl) dX5_book_9 ⟨Nat.le_of_ble_eq_true rfl, Nat.le_of_ble_eq_true rfl⟩) hI (fun z2 u9 H locs hz3 hp4 hI hfr => ?_)
  clear hfr
  obtain ⟨rfl, rfl⟩ := hp4
  refine z_if_eq (tgt := 37) hx hb dX5_book_12 (by decide) (by omega) (fun c5 => ?_) (fun c5 => ?_)
  · skip
    have c5 := zB_0 c5
    refine z_iconst hx hb dX5_book_37 ?_
    refine lv_goto (tgt := 55) hx hb dX5_book_38 (by decide) ?_
    refine zc_i (zrV (As := [.int (iZ 1)]) (rest := []) (κ := 0) (i := 0) ⟨hx, hb, hml, hown, hts⟩ (c_X5_fails l D cA n am S H.size 1 hW (by omega)) (cwV 1 hts gX5_book_X5_fails rfl rfl rfl (by decide +kernel) ⟨Nat.le_of_ble_eq_true rfl, Nat.le_of_ble_eq_true rfl⟩) hK hI (hW.1 0 (by decide)) rfl rfl rfl hl.1 rfl (Nat.le_of_ble_eq_true rfl) dX5_book_55 ⟨Nat.le_of_ble_eq_true rfl, Nat.le_of_ble_eq_true rfl⟩) hI (fun z6 u9 H locs hz7 hp8 hI hfr => ?_)
    clear hfr
    obtain ⟨rfl, rfl⟩ := hp8
    obtain ⟨S9, eS9⟩ : ∃ z, z = up3 S 0 0 24 1 := ⟨_, rfl⟩
    rw [← eS9] at hI
    have hW : mW n S9 := by rw [eS9]; exact hW.put rfl
    refine z_if_eq (tgt := 63) hx hb dX5_book_58 (by decide) (by omega) (fun c10 => ?_) (fun c10 => ?_)
    · skip
      have c10 := zB_0 c10
      omega
    · skip
      have c10 := zB_1 c10
      refine z_iconst hx hb dX5_book_61 ?_
      exact (ze_i (u' := (n, am, S9)) (z := 0) hx hb hr rfl hI (by omega) (Or.inl ⟨by rw [(show kBook S a b d = 1 by unfold kBook; repeat (first | rw [if_pos (by first | omega | assumption)] | rw [if_neg (by first | omega | assumption)]))]; decide, by rw [(show kBook S a b d = 1 by unfold kBook; repeat (first | rw [if_pos (by first | omega | assumption)] | rw [if_neg (by first | omega | assumption)])), eS9]⟩) (Nat.le_of_ble_eq_true rfl) (Nat.le_of_ble_eq_true rfl) dX5_book_62 hlocks)
  · skip
    have c5 := zB_1 c5
    refine lv_iload_n hx hb dX5_book_15 rfl (lv_at hl 2 rfl) ?_
    refine z_bipush hx hb dX5_book_16 (by decide) ?_
    refine z_icmp_eq (tgt := 27) hx hb dX5_book_18 (by decide) (by omega) (by omega) (fun c11 => ?_) (fun c11 => ?_)
    · skip
      refine lv_iload_n hx hb dX5_book_27 rfl (lv_at hl 3 rfl) ?_
      refine z_iconst hx hb dX5_book_28 ?_
      refine z_bipush hx hb dX5_book_29 (by decide) ?_
      refine zc_i (zrS (As := [.int (iZ d), .int (iZ 1), .int (iZ 9)]) (rest := [.ref (am 0 0)]) ⟨hx, hb, hml, hown, hts⟩ (c_X5_in l D cA n am S H.size d 1 9 (by omega) (by omega) (by omega)) (va_cwS 3 hts gX5_book_X5_in rfl rfl rfl (by decide +kernel) ⟨Nat.le_of_ble_eq_true rfl, Nat.le_of_ble_eq_true rfl⟩) hK hI rfl hl.1 rfl (Nat.le_of_ble_eq_true rfl) dX5_book_31 ⟨Nat.le_of_ble_eq_true rfl, Nat.le_of_ble_eq_true rfl⟩) hI (fun z12 u9 H locs hz13 hp14 hI hfr => ?_)
      clear hfr
      obtain ⟨rfl, rfl⟩ := hp14
      refine z_if_ne (tgt := 41) hx hb dX5_book_34 (by decide) (by omega) (fun c15 => ?_) (fun c15 => ?_)
      · skip
        have c15 := zB_1 c15
        refine lv_aload_n hx hb dX5_book_41 rfl (lv_at hl 0 rfl) ?_
        refine zg_i (κ := 0) (i := 0) (k := 8) hx hb LX5 hown hK hI (hW.1 0 (by decide)) rfl rfl (by decide) rfl f77 (fun _ h9 => h9) dX5_book_42 rfl (fun b16 => ?_)
        refine z_bipush hx hb dX5_book_45 (by decide) ?_
        refine z_icmp_ne (tgt := 54) hx hb dX5_book_47 (by decide) (by omega) (by omega) (fun c17 => ?_) (fun c17 => ?_)
        · skip
          refine z_iconst hx hb dX5_book_54 ?_
          refine zc_i (zrV (As := [.int (iZ 0)]) (rest := []) (κ := 0) (i := 0) ⟨hx, hb, hml, hown, hts⟩ (c_X5_fails l D cA n am S H.size 0 hW (by omega)) (cwV 1 hts gX5_book_X5_fails rfl rfl rfl (by decide +kernel) ⟨Nat.le_of_ble_eq_true rfl, Nat.le_of_ble_eq_true rfl⟩) hK hI (hW.1 0 (by decide)) rfl rfl rfl hl.1 rfl (Nat.le_of_ble_eq_true rfl) dX5_book_55 ⟨Nat.le_of_ble_eq_true rfl, Nat.le_of_ble_eq_true rfl⟩) hI (fun z18 u9 H locs hz19 hp20 hI hfr => ?_)
          clear hfr
          obtain ⟨rfl, rfl⟩ := hp20
          obtain ⟨S21, eS21⟩ : ∃ z, z = up3 S 0 0 24 0 := ⟨_, rfl⟩
          rw [← eS21] at hI
          have hW : mW n S21 := by rw [eS21]; exact hW.put rfl
          refine z_if_eq (tgt := 63) hx hb dX5_book_58 (by decide) (by omega) (fun c22 => ?_) (fun c22 => ?_)
          · skip
            have c22 := zB_0 c22
            refine lv_aload_n hx hb dX5_book_63 rfl (lv_at hl 0 rfl) ?_
            refine zg_r (κ := 0) (i := 0) (k := 9) (t := 9) (j := 0) hx hb LX5 hown hK hI (hW.1 0 (by decide)) rfl rfl (by decide) rfl f30 (fun _ h9 => h9) dX5_book_64 (hW.rf 9 rfl) (fun v23 => ?_)
            refine lv_aload_n hx hb dX5_book_67 rfl (lv_at hl 0 rfl) ?_
            refine zg_i (κ := 0) (i := 0) (k := 8) hx hb LX5 hown hK hI (hW.1 0 (by decide)) rfl rfl (by decide) rfl f77 (fun _ h9 => h9) dX5_book_68 (by rw [eS21, up3_n (by omega)]) (fun b24 => ?_)
            refine lv_iload_n hx hb dX5_book_71 rfl (lv_at hl 1 rfl) ?_
            refine zs_i (κ := 9) (i := 0) hx hb hK hI v23 rfl (by omega) (by omega) (by omega) (by omega) dX5_book_72 (fun H locs hI => ?_)
            obtain ⟨S25, eS25⟩ : ∃ z, z = up3 S21 9 0 ((S 0 0 8).toNat) a := ⟨_, rfl⟩
            rw [← eS25] at hI
            have hW : mW n S25 := by rw [eS25]; exact hW.put rfl
            refine lv_aload_n hx hb dX5_book_73 rfl (lv_at hl 0 rfl) ?_
            refine zg_r (κ := 0) (i := 0) (k := 10) (t := 10) (j := 0) hx hb LX5 hown hK hI (hW.1 0 (by decide)) rfl rfl (by decide) rfl f33 (fun _ h9 => h9) dX5_book_74 (hW.rf 10 rfl) (fun v26 => ?_)
            refine lv_aload_n hx hb dX5_book_77 rfl (lv_at hl 0 rfl) ?_
            refine zg_i (κ := 0) (i := 0) (k := 8) hx hb LX5 hown hK hI (hW.1 0 (by decide)) rfl rfl (by decide) rfl f77 (fun _ h9 => h9) dX5_book_78 (by rw [eS25, up3_n (by omega), eS21, up3_n (by omega)]) (fun b27 => ?_)
            refine lv_iload_n hx hb dX5_book_81 rfl (lv_at hl 2 rfl) ?_
            refine zs_c (κ := 10) (i := 0) hx hb hK hI v26 rfl (by omega) (by omega) (by omega) (by omega) (by omega) (by omega) dX5_book_82 (fun H locs hI => ?_)
            obtain ⟨S28, eS28⟩ : ∃ z, z = up3 S25 10 0 ((S 0 0 8).toNat) b := ⟨_, rfl⟩
            rw [← eS28] at hI
            have hW : mW n S28 := by rw [eS28]; exact hW.put rfl
            refine lv_aload_n hx hb dX5_book_83 rfl (lv_at hl 0 rfl) ?_
            refine zg_r (κ := 0) (i := 0) (k := 11) (t := 11) (j := 0) hx hb LX5 hown hK hI (hW.1 0 (by decide)) rfl rfl (by decide) rfl f36 (fun _ h9 => h9) dX5_book_84 (hW.rf 11 rfl) (fun v29 => ?_)
            refine lv_aload_n hx hb dX5_book_87 rfl (lv_at hl 0 rfl) ?_
            refine zg_i (κ := 0) (i := 0) (k := 8) hx hb LX5 hown hK hI (hW.1 0 (by decide)) rfl rfl (by decide) rfl f77 (fun _ h9 => h9) dX5_book_88 (by rw [eS28, up3_n (by omega), eS25, up3_n (by omega), eS21, up3_n (by omega)]) (fun b30 => ?_)
            refine lv_iload_n hx hb dX5_book_91 rfl (lv_at hl 3 rfl) ?_
            refine zs_i (κ := 11) (i := 0) hx hb hK hI v29 rfl (by omega) (by omega) (by omega) (by omega) dX5_book_92 (fun H locs hI => ?_)
            obtain ⟨S31, eS31⟩ : ∃ z, z = up3 S28 11 0 ((S 0 0 8).toNat) d := ⟨_, rfl⟩
            rw [← eS31] at hI
            have hW : mW n S31 := by rw [eS31]; exact hW.put rfl
            refine lv_aload_n hx hb dX5_book_93 rfl (lv_at hl 0 rfl) ?_
            refine zg_r (κ := 0) (i := 0) (k := 12) (t := 12) (j := 0) hx hb LX5 hown hK hI (hW.1 0 (by decide)) rfl rfl (by decide) rfl f39 (fun _ h9 => h9) dX5_book_94 (hW.rf 12 rfl) (fun v32 => ?_)
            refine lv_aload_n hx hb dX5_book_97 rfl (lv_at hl 0 rfl) ?_
            refine zg_i (κ := 0) (i := 0) (k := 8) hx hb LX5 hown hK hI (hW.1 0 (by decide)) rfl rfl (by decide) rfl f77 (fun _ h9 => h9) dX5_book_98 (by rw [eS31, up3_n (by omega), eS28, up3_n (by omega), eS25, up3_n (by omega), eS21, up3_n (by omega)]) (fun b33 => ?_)
            refine z_bipush hx hb dX5_book_101 (by decide) ?_
            refine zs_c (κ := 12) (i := 0) hx hb hK hI v32 rfl (by omega) (by omega) (by omega) (by omega) (by omega) (by omega) dX5_book_103 (fun H locs hI => ?_)
            obtain ⟨S34, eS34⟩ : ∃ z, z = up3 S31 12 0 ((S 0 0 8).toNat) 98 := ⟨_, rfl⟩
            rw [← eS34] at hI
            have hW : mW n S34 := by rw [eS34]; exact hW.put rfl
            refine lv_aload_n hx hb dX5_book_104 rfl (lv_at hl 0 rfl) ?_
            refine lv_dup hx hb dX5_book_105 rfl ?_
            refine zg_i (κ := 0) (i := 0) (k := 8) hx hb LX5 hown hK hI (hW.1 0 (by decide)) rfl rfl (by decide) rfl f77 (fun _ h9 => h9) dX5_book_106 (by rw [eS34, up3_n (by omega), eS31, up3_n (by omega), eS28, up3_n (by omega), eS25, up3_n (by omega), eS21, up3_n (by omega)]) (fun b35 => ?_)
            refine z_iconst hx hb dX5_book_109 ?_
            refine z_iadd hx hb dX5_book_110 ?_
            refine zp_i (κ := 0) (i := 0) (k := 8) hx hb LX5 tyX5 tyX5_ok nmX5 hown hK hI (hW.1 0 (by decide)) rfl rfl (by decide) rfl f77 (fun _ h9 => h9) rfl rfl rfl (by omega) dX5_book_111 (fun H locs hI => ?_)
            obtain ⟨S36, eS36⟩ : ∃ z, z = up3 S34 0 0 8 (S 0 0 8 + 1) := ⟨_, rfl⟩
            rw [← eS36] at hI
            have hW : mW n S36 := by rw [eS36]; exact hW.put rfl
            refine lv_aload_n hx hb dX5_book_114 rfl (lv_at hl 0 rfl) ?_
            refine zg_i (κ := 0) (i := 0) (k := 8) hx hb LX5 hown hK hI (hW.1 0 (by decide)) rfl rfl (by decide) rfl f77 (fun _ h9 => h9) dX5_book_115 (by rw [eS36, up3_s]) (fun b37 => ?_)
            refine z_iconst hx hb dX5_book_118 ?_
            refine z_isub hx hb dX5_book_119 ?_
            exact (ze_i (u' := (n, am, S36)) (z := ((S 0 0 8 + 1) - 1)) hx hb hr rfl hI (by omega) (Or.inr ⟨(show kBook S a b d = 0 by unfold kBook; repeat (first | rw [if_pos (by first | omega | assumption)] | rw [if_neg (by first | omega | assumption)])), by omega, by rw [eS36, eS34, eS31, eS28, eS25, eS21]; rfl⟩) (Nat.le_of_ble_eq_true rfl) (Nat.le_of_ble_eq_true rfl) dX5_book_120 hlocks)
          · skip
            have c22 := zB_1 c22
            omega
        · skip
          refine z_iconst hx hb dX5_book_50 ?_
          refine lv_goto (tgt := 55) hx hb dX5_book_51 (by decide) ?_
          refine zc_i (zrV (As := [.int (iZ 2)]) (rest := []) (κ := 0) (i := 0) ⟨hx, hb, hml, hown, hts⟩ (c_X5_fails l D cA n am S H.size 2 hW (by omega)) (cwV 1 hts gX5_book_X5_fails rfl rfl rfl (by decide +kernel) ⟨Nat.le_of_ble_eq_true rfl, Nat.le_of_ble_eq_true rfl⟩) hK hI (hW.1 0 (by decide)) rfl rfl rfl hl.1 rfl (Nat.le_of_ble_eq_true rfl) dX5_book_55 ⟨Nat.le_of_ble_eq_true rfl, Nat.le_of_ble_eq_true rfl⟩) hI (fun z38 u9 H locs hz39 hp40 hI hfr => ?_)
          clear hfr
          obtain ⟨rfl, rfl⟩ := hp40
          obtain ⟨S41, eS41⟩ : ∃ z, z = up3 S 0 0 24 2 := ⟨_, rfl⟩
          rw [← eS41] at hI
          have hW : mW n S41 := by rw [eS41]; exact hW.put rfl
          refine z_if_eq (tgt := 63) hx hb dX5_book_58 (by decide) (by omega) (fun c42 => ?_) (fun c42 => ?_)
          · skip
            have c42 := zB_0 c42
            omega
          · skip
            have c42 := zB_1 c42
            refine z_iconst hx hb dX5_book_61 ?_
            exact (ze_i (u' := (n, am, S41)) (z := 0) hx hb hr rfl hI (by omega) (Or.inl ⟨by rw [(show kBook S a b d = 2 by unfold kBook; repeat (first | rw [if_pos (by first | omega | assumption)] | rw [if_neg (by first | omega | assumption)]))]; decide, by rw [(show kBook S a b d = 2 by unfold kBook; repeat (first | rw [if_pos (by first | omega | assumption)] | rw [if_neg (by first | omega | assumption)])), eS41]⟩) (Nat.le_of_ble_eq_true rfl) (Nat.le_of_ble_eq_true rfl) dX5_book_62 hlocks)
      · skip
        have c15 := zB_0 c15
        refine z_iconst hx hb dX5_book_37 ?_
        refine lv_goto (tgt := 55) hx hb dX5_book_38 (by decide) ?_
        refine zc_i (zrV (As := [.int (iZ 1)]) (rest := []) (κ := 0) (i := 0) ⟨hx, hb, hml, hown, hts⟩ (c_X5_fails l D cA n am S H.size 1 hW (by omega)) (cwV 1 hts gX5_book_X5_fails rfl rfl rfl (by decide +kernel) ⟨Nat.le_of_ble_eq_true rfl, Nat.le_of_ble_eq_true rfl⟩) hK hI (hW.1 0 (by decide)) rfl rfl rfl hl.1 rfl (Nat.le_of_ble_eq_true rfl) dX5_book_55 ⟨Nat.le_of_ble_eq_true rfl, Nat.le_of_ble_eq_true rfl⟩) hI (fun z43 u9 H locs hz44 hp45 hI hfr => ?_)
        clear hfr
        obtain ⟨rfl, rfl⟩ := hp45
        obtain ⟨S46, eS46⟩ : ∃ z, z = up3 S 0 0 24 1 := ⟨_, rfl⟩
        rw [← eS46] at hI
        have hW : mW n S46 := by rw [eS46]; exact hW.put rfl
        refine z_if_eq (tgt := 63) hx hb dX5_book_58 (by decide) (by omega) (fun c47 => ?_) (fun c47 => ?_)
        · skip
          have c47 := zB_0 c47
          omega
        · skip
          have c47 := zB_1 c47
          refine z_iconst hx hb dX5_book_61 ?_
          exact (ze_i (u' := (n, am, S46)) (z := 0) hx hb hr rfl hI (by omega) (Or.inl ⟨by rw [(show kBook S a b d = 1 by unfold kBook; repeat (first | rw [if_pos (by first | omega | assumption)] | rw [if_neg (by first | omega | assumption)]))]; decide, by rw [(show kBook S a b d = 1 by unfold kBook; repeat (first | rw [if_pos (by first | omega | assumption)] | rw [if_neg (by first | omega | assumption)])), eS46]⟩) (Nat.le_of_ble_eq_true rfl) (Nat.le_of_ble_eq_true rfl) dX5_book_62 hlocks)
    · skip
      refine lv_iload_n hx hb dX5_book_21 rfl (lv_at hl 2 rfl) ?_
      refine z_bipush hx hb dX5_book_22 (by decide) ?_
      refine z_icmp_ne (tgt := 37) hx hb dX5_book_24 (by decide) (by omega) (by omega) (fun c48 => ?_) (fun c48 => ?_)
      · skip
        refine z_iconst hx hb dX5_book_37 ?_
        refine lv_goto (tgt := 55) hx hb dX5_book_38 (by decide) ?_
        refine zc_i (zrV (As := [.int (iZ 1)]) (rest := []) (κ := 0) (i := 0) ⟨hx, hb, hml, hown, hts⟩ (c_X5_fails l D cA n am S H.size 1 hW (by omega)) (cwV 1 hts gX5_book_X5_fails rfl rfl rfl (by decide +kernel) ⟨Nat.le_of_ble_eq_true rfl, Nat.le_of_ble_eq_true rfl⟩) hK hI (hW.1 0 (by decide)) rfl rfl rfl hl.1 rfl (Nat.le_of_ble_eq_true rfl) dX5_book_55 ⟨Nat.le_of_ble_eq_true rfl, Nat.le_of_ble_eq_true rfl⟩) hI (fun z49 u9 H locs hz50 hp51 hI hfr => ?_)
        clear hfr
        obtain ⟨rfl, rfl⟩ := hp51
        obtain ⟨S52, eS52⟩ : ∃ z, z = up3 S 0 0 24 1 := ⟨_, rfl⟩
        rw [← eS52] at hI
        have hW : mW n S52 := by rw [eS52]; exact hW.put rfl
        refine z_if_eq (tgt := 63) hx hb dX5_book_58 (by decide) (by omega) (fun c53 => ?_) (fun c53 => ?_)
        · skip
          have c53 := zB_0 c53
          omega
        · skip
          have c53 := zB_1 c53
          refine z_iconst hx hb dX5_book_61 ?_
          exact (ze_i (u' := (n, am, S52)) (z := 0) hx hb hr rfl hI (by omega) (Or.inl ⟨by rw [(show kBook S a b d = 1 by unfold kBook; repeat (first | rw [if_pos (by first | omega | assumption)] | rw [if_neg (by first | omega | assumption)]))]; decide, by rw [(show kBook S a b d = 1 by unfold kBook; repeat (first | rw [if_pos (by first | omega | assumption)] | rw [if_neg (by first | omega | assumption)])), eS52]⟩) (Nat.le_of_ble_eq_true rfl) (Nat.le_of_ble_eq_true rfl) dX5_book_62 hlocks)
      · skip
        refine lv_iload_n hx hb dX5_book_27 rfl (lv_at hl 3 rfl) ?_
        refine z_iconst hx hb dX5_book_28 ?_
        refine z_bipush hx hb dX5_book_29 (by decide) ?_
        refine zc_i (zrS (As := [.int (iZ d), .int (iZ 1), .int (iZ 9)]) (rest := [.ref (am 0 0)]) ⟨hx, hb, hml, hown, hts⟩ (c_X5_in l D cA n am S H.size d 1 9 (by omega) (by omega) (by omega)) (va_cwS 3 hts gX5_book_X5_in rfl rfl rfl (by decide +kernel) ⟨Nat.le_of_ble_eq_true rfl, Nat.le_of_ble_eq_true rfl⟩) hK hI rfl hl.1 rfl (Nat.le_of_ble_eq_true rfl) dX5_book_31 ⟨Nat.le_of_ble_eq_true rfl, Nat.le_of_ble_eq_true rfl⟩) hI (fun z54 u9 H locs hz55 hp56 hI hfr => ?_)
        clear hfr
        obtain ⟨rfl, rfl⟩ := hp56
        refine z_if_ne (tgt := 41) hx hb dX5_book_34 (by decide) (by omega) (fun c57 => ?_) (fun c57 => ?_)
        · skip
          have c57 := zB_1 c57
          refine lv_aload_n hx hb dX5_book_41 rfl (lv_at hl 0 rfl) ?_
          refine zg_i (κ := 0) (i := 0) (k := 8) hx hb LX5 hown hK hI (hW.1 0 (by decide)) rfl rfl (by decide) rfl f77 (fun _ h9 => h9) dX5_book_42 rfl (fun b58 => ?_)
          refine z_bipush hx hb dX5_book_45 (by decide) ?_
          refine z_icmp_ne (tgt := 54) hx hb dX5_book_47 (by decide) (by omega) (by omega) (fun c59 => ?_) (fun c59 => ?_)
          · skip
            refine z_iconst hx hb dX5_book_54 ?_
            refine zc_i (zrV (As := [.int (iZ 0)]) (rest := []) (κ := 0) (i := 0) ⟨hx, hb, hml, hown, hts⟩ (c_X5_fails l D cA n am S H.size 0 hW (by omega)) (cwV 1 hts gX5_book_X5_fails rfl rfl rfl (by decide +kernel) ⟨Nat.le_of_ble_eq_true rfl, Nat.le_of_ble_eq_true rfl⟩) hK hI (hW.1 0 (by decide)) rfl rfl rfl hl.1 rfl (Nat.le_of_ble_eq_true rfl) dX5_book_55 ⟨Nat.le_of_ble_eq_true rfl, Nat.le_of_ble_eq_true rfl⟩) hI (fun z60 u9 H locs hz61 hp62 hI hfr => ?_)
            clear hfr
            obtain ⟨rfl, rfl⟩ := hp62
            obtain ⟨S63, eS63⟩ : ∃ z, z = up3 S 0 0 24 0 := ⟨_, rfl⟩
            rw [← eS63] at hI
            have hW : mW n S63 := by rw [eS63]; exact hW.put rfl
            refine z_if_eq (tgt := 63) hx hb dX5_book_58 (by decide) (by omega) (fun c64 => ?_) (fun c64 => ?_)
            · skip
              have c64 := zB_0 c64
              refine lv_aload_n hx hb dX5_book_63 rfl (lv_at hl 0 rfl) ?_
              refine zg_r (κ := 0) (i := 0) (k := 9) (t := 9) (j := 0) hx hb LX5 hown hK hI (hW.1 0 (by decide)) rfl rfl (by decide) rfl f30 (fun _ h9 => h9) dX5_book_64 (hW.rf 9 rfl) (fun v65 => ?_)
              refine lv_aload_n hx hb dX5_book_67 rfl (lv_at hl 0 rfl) ?_
              refine zg_i (κ := 0) (i := 0) (k := 8) hx hb LX5 hown hK hI (hW.1 0 (by decide)) rfl rfl (by decide) rfl f77 (fun _ h9 => h9) dX5_book_68 (by rw [eS63, up3_n (by omega)]) (fun b66 => ?_)
              refine lv_iload_n hx hb dX5_book_71 rfl (lv_at hl 1 rfl) ?_
              refine zs_i (κ := 9) (i := 0) hx hb hK hI v65 rfl (by omega) (by omega) (by omega) (by omega) dX5_book_72 (fun H locs hI => ?_)
              obtain ⟨S67, eS67⟩ : ∃ z, z = up3 S63 9 0 ((S 0 0 8).toNat) a := ⟨_, rfl⟩
              rw [← eS67] at hI
              have hW : mW n S67 := by rw [eS67]; exact hW.put rfl
              refine lv_aload_n hx hb dX5_book_73 rfl (lv_at hl 0 rfl) ?_
              refine zg_r (κ := 0) (i := 0) (k := 10) (t := 10) (j := 0) hx hb LX5 hown hK hI (hW.1 0 (by decide)) rfl rfl (by decide) rfl f33 (fun _ h9 => h9) dX5_book_74 (hW.rf 10 rfl) (fun v68 => ?_)
              refine lv_aload_n hx hb dX5_book_77 rfl (lv_at hl 0 rfl) ?_
              refine zg_i (κ := 0) (i := 0) (k := 8) hx hb LX5 hown hK hI (hW.1 0 (by decide)) rfl rfl (by decide) rfl f77 (fun _ h9 => h9) dX5_book_78 (by rw [eS67, up3_n (by omega), eS63, up3_n (by omega)]) (fun b69 => ?_)
              refine lv_iload_n hx hb dX5_book_81 rfl (lv_at hl 2 rfl) ?_
              refine zs_c (κ := 10) (i := 0) hx hb hK hI v68 rfl (by omega) (by omega) (by omega) (by omega) (by omega) (by omega) dX5_book_82 (fun H locs hI => ?_)
              obtain ⟨S70, eS70⟩ : ∃ z, z = up3 S67 10 0 ((S 0 0 8).toNat) b := ⟨_, rfl⟩
              rw [← eS70] at hI
              have hW : mW n S70 := by rw [eS70]; exact hW.put rfl
              refine lv_aload_n hx hb dX5_book_83 rfl (lv_at hl 0 rfl) ?_
              refine zg_r (κ := 0) (i := 0) (k := 11) (t := 11) (j := 0) hx hb LX5 hown hK hI (hW.1 0 (by decide)) rfl rfl (by decide) rfl f36 (fun _ h9 => h9) dX5_book_84 (hW.rf 11 rfl) (fun v71 => ?_)
              refine lv_aload_n hx hb dX5_book_87 rfl (lv_at hl 0 rfl) ?_
              refine zg_i (κ := 0) (i := 0) (k := 8) hx hb LX5 hown hK hI (hW.1 0 (by decide)) rfl rfl (by decide) rfl f77 (fun _ h9 => h9) dX5_book_88 (by rw [eS70, up3_n (by omega), eS67, up3_n (by omega), eS63, up3_n (by omega)]) (fun b72 => ?_)
              refine lv_iload_n hx hb dX5_book_91 rfl (lv_at hl 3 rfl) ?_
              refine zs_i (κ := 11) (i := 0) hx hb hK hI v71 rfl (by omega) (by omega) (by omega) (by omega) dX5_book_92 (fun H locs hI => ?_)
              obtain ⟨S73, eS73⟩ : ∃ z, z = up3 S70 11 0 ((S 0 0 8).toNat) d := ⟨_, rfl⟩
              rw [← eS73] at hI
              have hW : mW n S73 := by rw [eS73]; exact hW.put rfl
              refine lv_aload_n hx hb dX5_book_93 rfl (lv_at hl 0 rfl) ?_
              refine zg_r (κ := 0) (i := 0) (k := 12) (t := 12) (j := 0) hx hb LX5 hown hK hI (hW.1 0 (by decide)) rfl rfl (by decide) rfl f39 (fun _ h9 => h9) dX5_book_94 (hW.rf 12 rfl) (fun v74 => ?_)
              refine lv_aload_n hx hb dX5_book_97 rfl (lv_at hl 0 rfl) ?_
              refine zg_i (κ := 0) (i := 0) (k := 8) hx hb LX5 hown hK hI (hW.1 0 (by decide)) rfl rfl (by decide) rfl f77 (fun _ h9 => h9) dX5_book_98 (by rw [eS73, up3_n (by omega), eS70, up3_n (by omega), eS67, up3_n (by omega), eS63, up3_n (by omega)]) (fun b75 => ?_)
              refine z_bipush hx hb dX5_book_101 (by decide) ?_
              refine zs_c (κ := 12) (i := 0) hx hb hK hI v74 rfl (by omega) (by omega) (by omega) (by omega) (by omega) (by omega) dX5_book_103 (fun H locs hI => ?_)
              obtain ⟨S76, eS76⟩ : ∃ z, z = up3 S73 12 0 ((S 0 0 8).toNat) 98 := ⟨_, rfl⟩
              rw [← eS76] at hI
              have hW : mW n S76 := by rw [eS76]; exact hW.put rfl
              refine lv_aload_n hx hb dX5_book_104 rfl (lv_at hl 0 rfl) ?_
              refine lv_dup hx hb dX5_book_105 rfl ?_
              refine zg_i (κ := 0) (i := 0) (k := 8) hx hb LX5 hown hK hI (hW.1 0 (by decide)) rfl rfl (by decide) rfl f77 (fun _ h9 => h9) dX5_book_106 (by rw [eS76, up3_n (by omega), eS73, up3_n (by omega), eS70, up3_n (by omega), eS67, up3_n (by omega), eS63, up3_n (by omega)]) (fun b77 => ?_)
              refine z_iconst hx hb dX5_book_109 ?_
              refine z_iadd hx hb dX5_book_110 ?_
              refine zp_i (κ := 0) (i := 0) (k := 8) hx hb LX5 tyX5 tyX5_ok nmX5 hown hK hI (hW.1 0 (by decide)) rfl rfl (by decide) rfl f77 (fun _ h9 => h9) rfl rfl rfl (by omega) dX5_book_111 (fun H locs hI => ?_)
              obtain ⟨S78, eS78⟩ : ∃ z, z = up3 S76 0 0 8 (S 0 0 8 + 1) := ⟨_, rfl⟩
              rw [← eS78] at hI
              have hW : mW n S78 := by rw [eS78]; exact hW.put rfl
              refine lv_aload_n hx hb dX5_book_114 rfl (lv_at hl 0 rfl) ?_
              refine zg_i (κ := 0) (i := 0) (k := 8) hx hb LX5 hown hK hI (hW.1 0 (by decide)) rfl rfl (by decide) rfl f77 (fun _ h9 => h9) dX5_book_115 (by rw [eS78, up3_s]) (fun b79 => ?_)
              refine z_iconst hx hb dX5_book_118 ?_
              refine z_isub hx hb dX5_book_119 ?_
              exact (ze_i (u' := (n, am, S78)) (z := ((S 0 0 8 + 1) - 1)) hx hb hr rfl hI (by omega) (Or.inr ⟨(show kBook S a b d = 0 by unfold kBook; repeat (first | rw [if_pos (by first | omega | assumption)] | rw [if_neg (by first | omega | assumption)])), by omega, by rw [eS78, eS76, eS73, eS70, eS67, eS63]; rfl⟩) (Nat.le_of_ble_eq_true rfl) (Nat.le_of_ble_eq_true rfl) dX5_book_120 hlocks)
            · skip
              have c64 := zB_1 c64
              omega
          · skip
            refine z_iconst hx hb dX5_book_50 ?_
            refine lv_goto (tgt := 55) hx hb dX5_book_51 (by decide) ?_
            refine zc_i (zrV (As := [.int (iZ 2)]) (rest := []) (κ := 0) (i := 0) ⟨hx, hb, hml, hown, hts⟩ (c_X5_fails l D cA n am S H.size 2 hW (by omega)) (cwV 1 hts gX5_book_X5_fails rfl rfl rfl (by decide +kernel) ⟨Nat.le_of_ble_eq_true rfl, Nat.le_of_ble_eq_true rfl⟩) hK hI (hW.1 0 (by decide)) rfl rfl rfl hl.1 rfl (Nat.le_of_ble_eq_true rfl) dX5_book_55 ⟨Nat.le_of_ble_eq_true rfl, Nat.le_of_ble_eq_true rfl⟩) hI (fun z80 u9 H locs hz81 hp82 hI hfr => ?_)
            clear hfr
            obtain ⟨rfl, rfl⟩ := hp82
            obtain ⟨S83, eS83⟩ : ∃ z, z = up3 S 0 0 24 2 := ⟨_, rfl⟩
            rw [← eS83] at hI
            have hW : mW n S83 := by rw [eS83]; exact hW.put rfl
            refine z_if_eq (tgt := 63) hx hb dX5_book_58 (by decide) (by omega) (fun c84 => ?_) (fun c84 => ?_)
            · skip
              have c84 := zB_0 c84
              omega
            · skip
              have c84 := zB_1 c84
              refine z_iconst hx hb dX5_book_61 ?_
              exact (ze_i (u' := (n, am, S83)) (z := 0) hx hb hr rfl hI (by omega) (Or.inl ⟨by rw [(show kBook S a b d = 2 by unfold kBook; repeat (first | rw [if_pos (by first | omega | assumption)] | rw [if_neg (by first | omega | assumption)]))]; decide, by rw [(show kBook S a b d = 2 by unfold kBook; repeat (first | rw [if_pos (by first | omega | assumption)] | rw [if_neg (by first | omega | assumption)])), eS83]⟩) (Nat.le_of_ble_eq_true rfl) (Nat.le_of_ble_eq_true rfl) dX5_book_62 hlocks)
        · skip
          have c57 := zB_0 c57
          refine z_iconst hx hb dX5_book_37 ?_
          refine lv_goto (tgt := 55) hx hb dX5_book_38 (by decide) ?_
          refine zc_i (zrV (As := [.int (iZ 1)]) (rest := []) (κ := 0) (i := 0) ⟨hx, hb, hml, hown, hts⟩ (c_X5_fails l D cA n am S H.size 1 hW (by omega)) (cwV 1 hts gX5_book_X5_fails rfl rfl rfl (by decide +kernel) ⟨Nat.le_of_ble_eq_true rfl, Nat.le_of_ble_eq_true rfl⟩) hK hI (hW.1 0 (by decide)) rfl rfl rfl hl.1 rfl (Nat.le_of_ble_eq_true rfl) dX5_book_55 ⟨Nat.le_of_ble_eq_true rfl, Nat.le_of_ble_eq_true rfl⟩) hI (fun z85 u9 H locs hz86 hp87 hI hfr => ?_)
          clear hfr
          obtain ⟨rfl, rfl⟩ := hp87
          obtain ⟨S88, eS88⟩ : ∃ z, z = up3 S 0 0 24 1 := ⟨_, rfl⟩
          rw [← eS88] at hI
          have hW : mW n S88 := by rw [eS88]; exact hW.put rfl
          refine z_if_eq (tgt := 63) hx hb dX5_book_58 (by decide) (by omega) (fun c89 => ?_) (fun c89 => ?_)
          · skip
            have c89 := zB_0 c89
            omega
          · skip
            have c89 := zB_1 c89
            refine z_iconst hx hb dX5_book_61 ?_
            exact (ze_i (u' := (n, am, S88)) (z := 0) hx hb hr rfl hI (by omega) (Or.inl ⟨by rw [(show kBook S a b d = 1 by unfold kBook; repeat (first | rw [if_pos (by first | omega | assumption)] | rw [if_neg (by first | omega | assumption)]))]; decide, by rw [(show kBook S a b d = 1 by unfold kBook; repeat (first | rw [if_pos (by first | omega | assumption)] | rw [if_neg (by first | omega | assumption)])), eS88]⟩) (Nat.le_of_ble_eq_true rfl) (Nat.le_of_ble_eq_true rfl) dX5_book_62 hlocks)
set_option maxHeartbeats 4000000 in
set_option maxRecDepth 100000 in
theorem c_X5_arrive (l : Launch) (D : va_G) (cA : Nat → ClassId) (n : Nat → Nat) (am : ts_Am) (S : ts_St) (sz : Nat) (t y : Int) (hW : mW n S) (ht0 : iR t) (hy0 : iR y) (hR : mR S) : Met l yX5_arrive wsX5_arrive ({ frames := 2, cells := 0, slots := 0, locals := 43 } : Room) (va_Pc [.ref (am 0 0), .int (iZ t), .int (iZ y)] (zP TM D cA (n, am, S) sz)) (zQi TM D cA (n, am, S) sz (fun z u => (¬ kArrive S t y = 0 ∧ u = (n, am, up3 S 0 0 24 (kArrive S t y))) ∨ (kArrive S t y = 0 ∧ z = mPunc (gArrive S t y) t.toNat ∧ u = (n, am, gArrive S t y)))) 0 0 (ts_A (n, am, S) sz) := by
  refine zM_of (by decide) rfl (Nat.le_of_ble_eq_true rfl) ?_
  intro p e s m below meth c hx hb hr hts hown hlocks hml hname hK hsz H locs hI ls hl
  subst hsz
  have hown : s.vm.findClass RX5 = some m.cls := hown
  have hl : lv_has ls 3 [(0, .ref (am 0 0)), (1, .int (iZ t)), (2, .int (iZ y))] := hl
  have f39 := hts (.fieldLink RX5 39 "DockyardSlotsModel" "states" "[C") (by decide +kernel)
  have f42 := hts (.fieldLink RX5 42 "DockyardSlotsModel" "arrivals" "[I") (by decide +kernel)
  have f87 := hts (.fieldLink RX5 87 "DockyardSlotsModel" "time" "I") (by decide +kernel)
  have LX5 : ∀ w ∈ wsX50, w.before [.ref (am 0 0), .int (iZ t), .int (iZ y)].toArray s = true := fun w h => hts w (List.mem_cons_of_mem _ (List.mem_append_left _ (List.mem_append_right _ h)))
  have hR1 := hR.1
  refine lv_aload_n hx hb dX5_arrive_0 rfl (lv_at hl 0 rfl) ?_
  refine lv_aload_n hx hb dX5_arrive_1 rfl (lv_at hl 0 rfl) ?_
  refine lv_iload_n hx hb dX5_arrive_2 rfl (lv_at hl 1 rfl) ?_
  refine zc_i (zrV (As := [.int (iZ t)]) (rest := [.ref (am 0 0)]) (κ := 0) (i := 0) ⟨hx, hb, hml, hown, hts⟩ (c_X5_isNone l D cA n am S H.size t hW (by omega)) (cwV 1 hts gX5_arrive_X5_isNone rfl rfl rfl (by decide +kernel) ⟨Nat.le_of_ble_eq_true rfl, Nat.le_of_ble_eq_true rfl⟩) hK hI (hW.1 0 (by decide)) rfl rfl rfl hl.1 rfl (Nat.le_of_ble_eq_true rfl) dX5_arrive_3 ⟨Nat.le_of_ble_eq_true rfl, Nat.le_of_ble_eq_true rfl⟩) hI (fun z1 u9 H locs hz2 hp3 hI hfr => ?_)
  clear hfr
  obtain ⟨rfl, rfl⟩ := hp3
  refine z_if_eq (tgt := 13) hx hb dX5_arrive_6 (by decide) (by omega) (fun c4 => ?_) (fun c4 => ?_)
  · skip
    have c4 := zB_0 c4
    refine lv_aload_n hx hb dX5_arrive_13 rfl (lv_at hl 0 rfl) ?_
    refine lv_iload_n hx hb dX5_arrive_14 rfl (lv_at hl 2 rfl) ?_
    refine zc_i (zrV (As := [.int (iZ y)]) (rest := [.ref (am 0 0)]) (κ := 0) (i := 0) ⟨hx, hb, hml, hown, hts⟩ (c_X5_isNoLane l D cA n am S H.size y hW (by omega)) (cwV 1 hts gX5_arrive_X5_isNoLane rfl rfl rfl (by decide +kernel) ⟨Nat.le_of_ble_eq_true rfl, Nat.le_of_ble_eq_true rfl⟩) hK hI (hW.1 0 (by decide)) rfl rfl rfl hl.1 rfl (Nat.le_of_ble_eq_true rfl) dX5_arrive_15 ⟨Nat.le_of_ble_eq_true rfl, Nat.le_of_ble_eq_true rfl⟩) hI (fun z5 u9 H locs hz6 hp7 hI hfr => ?_)
    clear hfr
    obtain ⟨rfl, rfl⟩ := hp7
    refine z_if_eq (tgt := 25) hx hb dX5_arrive_18 (by decide) (by omega) (fun c8 => ?_) (fun c8 => ?_)
    · skip
      have c8 := zB_0 c8
      refine lv_aload_n hx hb dX5_arrive_25 rfl (lv_at hl 0 rfl) ?_
      refine zg_r (κ := 0) (i := 0) (k := 12) (t := 12) (j := 0) hx hb LX5 hown hK hI (hW.1 0 (by decide)) rfl rfl (by decide) rfl f39 (fun _ h9 => h9) dX5_arrive_26 (hW.rf 12 rfl) (fun v9 => ?_)
      refine lv_iload_n hx hb dX5_arrive_29 rfl (lv_at hl 1 rfl) ?_
      refine za_c (κ := 12) (i := 0) hx hb hK hI v9 rfl (by omega) (by omega) (by omega) dX5_arrive_30 rfl (fun b10 => ?_)
      refine z_bipush hx hb dX5_arrive_31 (by decide) ?_
      refine z_icmp_ne (tgt := 45) hx hb dX5_arrive_33 (by decide) (by omega) (by omega) (fun c11 => ?_) (fun c11 => ?_)
      · skip
        refine z_iconst hx hb dX5_arrive_45 ?_
        refine lv_goto (tgt := 63) hx hb dX5_arrive_46 (by decide) ?_
        refine zc_i (zrV (As := [.int (iZ 3)]) (rest := []) (κ := 0) (i := 0) ⟨hx, hb, hml, hown, hts⟩ (c_X5_fails l D cA n am S H.size 3 hW (by omega)) (cwV 1 hts gX5_arrive_X5_fails rfl rfl rfl (by decide +kernel) ⟨Nat.le_of_ble_eq_true rfl, Nat.le_of_ble_eq_true rfl⟩) hK hI (hW.1 0 (by decide)) rfl rfl rfl hl.1 rfl (Nat.le_of_ble_eq_true rfl) dX5_arrive_63 ⟨Nat.le_of_ble_eq_true rfl, Nat.le_of_ble_eq_true rfl⟩) hI (fun z12 u9 H locs hz13 hp14 hI hfr => ?_)
        clear hfr
        obtain ⟨rfl, rfl⟩ := hp14
        obtain ⟨S15, eS15⟩ : ∃ z, z = up3 S 0 0 24 3 := ⟨_, rfl⟩
        rw [← eS15] at hI
        have hW : mW n S15 := by rw [eS15]; exact hW.put rfl
        refine z_if_eq (tgt := 72) hx hb dX5_arrive_66 (by decide) (by omega) (fun c16 => ?_) (fun c16 => ?_)
        · skip
          have c16 := zB_0 c16
          omega
        · skip
          have c16 := zB_1 c16
          refine z_bipush hx hb dX5_arrive_69 (by decide) ?_
          exact (ze_i (u' := (n, am, S15)) (z := 97) hx hb hr (iZ_narc (by omega) (by omega)).1 hI (by omega) (Or.inl ⟨by rw [(show kArrive S t y = 3 by unfold kArrive; repeat (first | rw [if_pos (by first | omega | assumption)] | rw [if_neg (by first | omega | assumption)]))]; decide, by rw [(show kArrive S t y = 3 by unfold kArrive; repeat (first | rw [if_pos (by first | omega | assumption)] | rw [if_neg (by first | omega | assumption)])), eS15]⟩) (Nat.le_of_ble_eq_true rfl) (Nat.le_of_ble_eq_true rfl) dX5_arrive_71 hlocks)
      · skip
        refine lv_aload_n hx hb dX5_arrive_36 rfl (lv_at hl 0 rfl) ?_
        refine zc_i (zrV (As := []) (rest := [.ref (am 0 0)]) (κ := 0) (i := 0) ⟨hx, hb, hml, hown, hts⟩ (c_X5_inLanes l D cA n am S H.size  hW hR.1.1 hR.2.1) (cwV 0 hts gX5_arrive_X5_inLanes rfl rfl rfl (by decide +kernel) ⟨Nat.le_of_ble_eq_true rfl, Nat.le_of_ble_eq_true rfl⟩) hK hI (hW.1 0 (by decide)) rfl rfl rfl hl.1 rfl (Nat.le_of_ble_eq_true rfl) dX5_arrive_37 ⟨Nat.le_of_ble_eq_true rfl, Nat.le_of_ble_eq_true rfl⟩) hI (fun z17 u9 H locs hz18 hp19 hI hfr => ?_)
        clear hfr
        obtain ⟨rfl, rfl⟩ := hp19
        refine z_bipush hx hb dX5_arrive_40 (by decide) ?_
        refine z_icmp_ne (tgt := 49) hx hb dX5_arrive_42 (by decide) (by omega) (by omega) (fun c20 => ?_) (fun c20 => ?_)
        · skip
          refine lv_aload_n hx hb dX5_arrive_49 rfl (lv_at hl 0 rfl) ?_
          refine lv_iload_n hx hb dX5_arrive_50 rfl (lv_at hl 1 rfl) ?_
          refine lv_iload_n hx hb dX5_arrive_51 rfl (lv_at hl 2 rfl) ?_
          refine zc_i (zrV (As := [.int (iZ t), .int (iZ y)]) (rest := [.ref (am 0 0)]) (κ := 0) (i := 0) ⟨hx, hb, hml, hown, hts⟩ (c_X5_canCome l D cA n am S H.size t y hW (by omega) (by omega)) (cwV 2 hts gX5_arrive_X5_canCome rfl rfl rfl (by decide +kernel) ⟨Nat.le_of_ble_eq_true rfl, Nat.le_of_ble_eq_true rfl⟩) hK hI (hW.1 0 (by decide)) rfl rfl rfl hl.1 rfl (Nat.le_of_ble_eq_true rfl) dX5_arrive_52 ⟨Nat.le_of_ble_eq_true rfl, Nat.le_of_ble_eq_true rfl⟩) hI (fun z21 u9 H locs hz22 hp23 hI hfr => ?_)
          clear hfr
          obtain ⟨rfl, rfl⟩ := hp23
          refine z_if_eq (tgt := 62) hx hb dX5_arrive_55 (by decide) (by omega) (fun c24 => ?_) (fun c24 => ?_)
          · skip
            have c24 := zB_0 c24
            refine z_iconst hx hb dX5_arrive_62 ?_
            refine zc_i (zrV (As := [.int (iZ 4)]) (rest := []) (κ := 0) (i := 0) ⟨hx, hb, hml, hown, hts⟩ (c_X5_fails l D cA n am S H.size 4 hW (by omega)) (cwV 1 hts gX5_arrive_X5_fails rfl rfl rfl (by decide +kernel) ⟨Nat.le_of_ble_eq_true rfl, Nat.le_of_ble_eq_true rfl⟩) hK hI (hW.1 0 (by decide)) rfl rfl rfl hl.1 rfl (Nat.le_of_ble_eq_true rfl) dX5_arrive_63 ⟨Nat.le_of_ble_eq_true rfl, Nat.le_of_ble_eq_true rfl⟩) hI (fun z25 u9 H locs hz26 hp27 hI hfr => ?_)
            clear hfr
            obtain ⟨rfl, rfl⟩ := hp27
            obtain ⟨S28, eS28⟩ : ∃ z, z = up3 S 0 0 24 4 := ⟨_, rfl⟩
            rw [← eS28] at hI
            have hW : mW n S28 := by rw [eS28]; exact hW.put rfl
            refine z_if_eq (tgt := 72) hx hb dX5_arrive_66 (by decide) (by omega) (fun c29 => ?_) (fun c29 => ?_)
            · skip
              have c29 := zB_0 c29
              omega
            · skip
              have c29 := zB_1 c29
              refine z_bipush hx hb dX5_arrive_69 (by decide) ?_
              exact (ze_i (u' := (n, am, S28)) (z := 97) hx hb hr (iZ_narc (by omega) (by omega)).1 hI (by omega) (Or.inl ⟨by rw [(show kArrive S t y = 4 by unfold kArrive; repeat (first | rw [if_pos (by first | omega | assumption)] | rw [if_neg (by first | omega | assumption)]))]; decide, by rw [(show kArrive S t y = 4 by unfold kArrive; repeat (first | rw [if_pos (by first | omega | assumption)] | rw [if_neg (by first | omega | assumption)])), eS28]⟩) (Nat.le_of_ble_eq_true rfl) (Nat.le_of_ble_eq_true rfl) dX5_arrive_71 hlocks)
          · skip
            have c24 := zB_1 c24
            refine z_iconst hx hb dX5_arrive_58 ?_
            refine lv_goto (tgt := 63) hx hb dX5_arrive_59 (by decide) ?_
            refine zc_i (zrV (As := [.int (iZ 0)]) (rest := []) (κ := 0) (i := 0) ⟨hx, hb, hml, hown, hts⟩ (c_X5_fails l D cA n am S H.size 0 hW (by omega)) (cwV 1 hts gX5_arrive_X5_fails rfl rfl rfl (by decide +kernel) ⟨Nat.le_of_ble_eq_true rfl, Nat.le_of_ble_eq_true rfl⟩) hK hI (hW.1 0 (by decide)) rfl rfl rfl hl.1 rfl (Nat.le_of_ble_eq_true rfl) dX5_arrive_63 ⟨Nat.le_of_ble_eq_true rfl, Nat.le_of_ble_eq_true rfl⟩) hI (fun z30 u9 H locs hz31 hp32 hI hfr => ?_)
            clear hfr
            obtain ⟨rfl, rfl⟩ := hp32
            obtain ⟨S33, eS33⟩ : ∃ z, z = up3 S 0 0 24 0 := ⟨_, rfl⟩
            rw [← eS33] at hI
            have hW : mW n S33 := by rw [eS33]; exact hW.put rfl
            refine z_if_eq (tgt := 72) hx hb dX5_arrive_66 (by decide) (by omega) (fun c34 => ?_) (fun c34 => ?_)
            · skip
              have c34 := zB_0 c34
              refine lv_aload_n hx hb dX5_arrive_72 rfl (lv_at hl 0 rfl) ?_
              refine zg_r (κ := 0) (i := 0) (k := 12) (t := 12) (j := 0) hx hb LX5 hown hK hI (hW.1 0 (by decide)) rfl rfl (by decide) rfl f39 (fun _ h9 => h9) dX5_arrive_73 (hW.rf 12 rfl) (fun v35 => ?_)
              refine lv_iload_n hx hb dX5_arrive_76 rfl (lv_at hl 1 rfl) ?_
              have hRt := hR.2.2.1 t.toNat
              refine z_bipush hx hb dX5_arrive_77 (by decide) ?_
              refine zs_c (κ := 12) (i := 0) hx hb hK hI v35 rfl (by omega) (by omega) (by omega) (by omega) (by omega) (by omega) dX5_arrive_79 (fun H locs hI => ?_)
              obtain ⟨S36, eS36⟩ : ∃ z, z = up3 S33 12 0 t.toNat 121 := ⟨_, rfl⟩
              rw [← eS36] at hI
              have hW : mW n S36 := by rw [eS36]; exact hW.put rfl
              refine lv_aload_n hx hb dX5_arrive_80 rfl (lv_at hl 0 rfl) ?_
              refine zg_r (κ := 0) (i := 0) (k := 13) (t := 13) (j := 0) hx hb LX5 hown hK hI (hW.1 0 (by decide)) rfl rfl (by decide) rfl f42 (fun _ h9 => h9) dX5_arrive_81 (hW.rf 13 rfl) (fun v37 => ?_)
              refine lv_iload_n hx hb dX5_arrive_84 rfl (lv_at hl 1 rfl) ?_
              refine lv_aload_n hx hb dX5_arrive_85 rfl (lv_at hl 0 rfl) ?_
              refine zg_i (κ := 0) (i := 0) (k := 21) hx hb LX5 hown hK hI (hW.1 0 (by decide)) rfl rfl (by decide) rfl f87 (fun _ h9 => h9) dX5_arrive_86 (by rw [eS36, up3_n (by omega), eS33, up3_n (by omega)]) (fun b38 => ?_)
              refine zs_i (κ := 13) (i := 0) hx hb hK hI v37 rfl (by omega) (by omega) (by omega) (by omega) dX5_arrive_89 (fun H locs hI => ?_)
              obtain ⟨S39, eS39⟩ : ∃ z, z = up3 S36 13 0 t.toNat (S 0 0 21) := ⟨_, rfl⟩
              rw [← eS39] at hI
              have hW : mW n S39 := by rw [eS39]; exact hW.put rfl
              refine lv_aload_n hx hb dX5_arrive_90 rfl (lv_at hl 0 rfl) ?_
              refine lv_iload_n hx hb dX5_arrive_91 rfl (lv_at hl 1 rfl) ?_
              refine lv_iload_n hx hb dX5_arrive_92 rfl (lv_at hl 2 rfl) ?_
              refine zc_v (zrV (As := [.int (iZ t), .int (iZ y)]) (rest := []) (κ := 0) (i := 0) ⟨hx, hb, hml, hown, hts⟩ (c_X5_comes l D cA n am S39 H.size t y hW (by omega) (by omega) (by rw [show S39 3 0 y.toNat = S 3 0 y.toNat from (by rw [eS39, up3_n (by omega), eS36, up3_n (by omega), eS33, up3_n (by omega)])]; have := hR.2.1 y.toNat; have := hR.2.2.2 y.toNat; omega)) (cwV 2 hts gX5_arrive_X5_comes rfl rfl rfl (by decide +kernel) ⟨Nat.le_of_ble_eq_true rfl, Nat.le_of_ble_eq_true rfl⟩) hK hI (hW.1 0 (by decide)) rfl rfl rfl hl.1 rfl (Nat.le_of_ble_eq_true rfl) dX5_arrive_93 ⟨Nat.le_of_ble_eq_true rfl, Nat.le_of_ble_eq_true rfl⟩) hI (fun u9 H locs hp40 hI hfr => ?_)
              clear hfr
              obtain rfl := hp40
              obtain ⟨S41, eS41⟩ : ∃ z, z = mComes S39 t y := ⟨_, rfl⟩
              rw [← eS41] at hI
              have hW : mW n S41 := by rw [eS41]; exact (hW.put rfl).put rfl
              refine lv_aload_n hx hb dX5_arrive_96 rfl (lv_at hl 0 rfl) ?_
              refine lv_iload_n hx hb dX5_arrive_97 rfl (lv_at hl 1 rfl) ?_
              refine zc_i (zrV (As := [.int (iZ t)]) (rest := []) (κ := 0) (i := 0) ⟨hx, hb, hml, hown, hts⟩ (c_X5_punctual l D cA n am S41 H.size t hW (by omega)) (cwV 1 hts gX5_arrive_X5_punctual rfl rfl rfl (by decide +kernel) ⟨Nat.le_of_ble_eq_true rfl, Nat.le_of_ble_eq_true rfl⟩) hK hI (hW.1 0 (by decide)) rfl rfl rfl hl.1 rfl (Nat.le_of_ble_eq_true rfl) dX5_arrive_98 ⟨Nat.le_of_ble_eq_true rfl, Nat.le_of_ble_eq_true rfl⟩) hI (fun z42 u9 H locs hz43 hp44 hI hfr => ?_)
              clear hfr
              obtain ⟨rfl, rfl⟩ := hp44
              exact (ze_i (u' := (n, am, S41)) (z := mPunc S41 t.toNat) hx hb hr (iZ_narc (by have := mPunc_R S41 t.toNat; omega) (by have := mPunc_R S41 t.toNat; omega)).1 hI (by have := mPunc_R S41 t.toNat; omega) (Or.inr ⟨(show kArrive S t y = 0 by unfold kArrive; repeat (first | rw [if_pos (by first | omega | assumption)] | rw [if_neg (by first | omega | assumption)])), by rw [eS41, eS39, eS36, eS33]; rfl, by rw [eS41, eS39, eS36, eS33]; rfl⟩) (Nat.le_of_ble_eq_true rfl) (Nat.le_of_ble_eq_true rfl) dX5_arrive_101 hlocks)
            · skip
              have c34 := zB_1 c34
              omega
        · skip
          refine z_iconst hx hb dX5_arrive_45 ?_
          refine lv_goto (tgt := 63) hx hb dX5_arrive_46 (by decide) ?_
          refine zc_i (zrV (As := [.int (iZ 3)]) (rest := []) (κ := 0) (i := 0) ⟨hx, hb, hml, hown, hts⟩ (c_X5_fails l D cA n am S H.size 3 hW (by omega)) (cwV 1 hts gX5_arrive_X5_fails rfl rfl rfl (by decide +kernel) ⟨Nat.le_of_ble_eq_true rfl, Nat.le_of_ble_eq_true rfl⟩) hK hI (hW.1 0 (by decide)) rfl rfl rfl hl.1 rfl (Nat.le_of_ble_eq_true rfl) dX5_arrive_63 ⟨Nat.le_of_ble_eq_true rfl, Nat.le_of_ble_eq_true rfl⟩) hI (fun z45 u9 H locs hz46 hp47 hI hfr => ?_)
          clear hfr
          obtain ⟨rfl, rfl⟩ := hp47
          obtain ⟨S48, eS48⟩ : ∃ z, z = up3 S 0 0 24 3 := ⟨_, rfl⟩
          rw [← eS48] at hI
          have hW : mW n S48 := by rw [eS48]; exact hW.put rfl
          refine z_if_eq (tgt := 72) hx hb dX5_arrive_66 (by decide) (by omega) (fun c49 => ?_) (fun c49 => ?_)
          · skip
            have c49 := zB_0 c49
            omega
          · skip
            have c49 := zB_1 c49
            refine z_bipush hx hb dX5_arrive_69 (by decide) ?_
            exact (ze_i (u' := (n, am, S48)) (z := 97) hx hb hr (iZ_narc (by omega) (by omega)).1 hI (by omega) (Or.inl ⟨by rw [(show kArrive S t y = 3 by unfold kArrive; repeat (first | rw [if_pos (by first | omega | assumption)] | rw [if_neg (by first | omega | assumption)]))]; decide, by rw [(show kArrive S t y = 3 by unfold kArrive; repeat (first | rw [if_pos (by first | omega | assumption)] | rw [if_neg (by first | omega | assumption)])), eS48]⟩) (Nat.le_of_ble_eq_true rfl) (Nat.le_of_ble_eq_true rfl) dX5_arrive_71 hlocks)
    · skip
      have c8 := zB_1 c8
      refine z_iconst hx hb dX5_arrive_21 ?_
      refine lv_goto (tgt := 63) hx hb dX5_arrive_22 (by decide) ?_
      refine zc_i (zrV (As := [.int (iZ 2)]) (rest := []) (κ := 0) (i := 0) ⟨hx, hb, hml, hown, hts⟩ (c_X5_fails l D cA n am S H.size 2 hW (by omega)) (cwV 1 hts gX5_arrive_X5_fails rfl rfl rfl (by decide +kernel) ⟨Nat.le_of_ble_eq_true rfl, Nat.le_of_ble_eq_true rfl⟩) hK hI (hW.1 0 (by decide)) rfl rfl rfl hl.1 rfl (Nat.le_of_ble_eq_true rfl) dX5_arrive_63 ⟨Nat.le_of_ble_eq_true rfl, Nat.le_of_ble_eq_true rfl⟩) hI (fun z50 u9 H locs hz51 hp52 hI hfr => ?_)
      clear hfr
      obtain ⟨rfl, rfl⟩ := hp52
      obtain ⟨S53, eS53⟩ : ∃ z, z = up3 S 0 0 24 2 := ⟨_, rfl⟩
      rw [← eS53] at hI
      have hW : mW n S53 := by rw [eS53]; exact hW.put rfl
      refine z_if_eq (tgt := 72) hx hb dX5_arrive_66 (by decide) (by omega) (fun c54 => ?_) (fun c54 => ?_)
      · skip
        have c54 := zB_0 c54
        omega
      · skip
        have c54 := zB_1 c54
        refine z_bipush hx hb dX5_arrive_69 (by decide) ?_
        exact (ze_i (u' := (n, am, S53)) (z := 97) hx hb hr (iZ_narc (by omega) (by omega)).1 hI (by omega) (Or.inl ⟨by rw [(show kArrive S t y = 2 by unfold kArrive; repeat (first | rw [if_pos (by first | omega | assumption)] | rw [if_neg (by first | omega | assumption)]))]; decide, by rw [(show kArrive S t y = 2 by unfold kArrive; repeat (first | rw [if_pos (by first | omega | assumption)] | rw [if_neg (by first | omega | assumption)])), eS53]⟩) (Nat.le_of_ble_eq_true rfl) (Nat.le_of_ble_eq_true rfl) dX5_arrive_71 hlocks)
  · skip
    have c4 := zB_1 c4
    refine z_iconst hx hb dX5_arrive_9 ?_
    refine lv_goto (tgt := 63) hx hb dX5_arrive_10 (by decide) ?_
    refine zc_i (zrV (As := [.int (iZ 1)]) (rest := []) (κ := 0) (i := 0) ⟨hx, hb, hml, hown, hts⟩ (c_X5_fails l D cA n am S H.size 1 hW (by omega)) (cwV 1 hts gX5_arrive_X5_fails rfl rfl rfl (by decide +kernel) ⟨Nat.le_of_ble_eq_true rfl, Nat.le_of_ble_eq_true rfl⟩) hK hI (hW.1 0 (by decide)) rfl rfl rfl hl.1 rfl (Nat.le_of_ble_eq_true rfl) dX5_arrive_63 ⟨Nat.le_of_ble_eq_true rfl, Nat.le_of_ble_eq_true rfl⟩) hI (fun z55 u9 H locs hz56 hp57 hI hfr => ?_)
    clear hfr
    obtain ⟨rfl, rfl⟩ := hp57
    obtain ⟨S58, eS58⟩ : ∃ z, z = up3 S 0 0 24 1 := ⟨_, rfl⟩
    rw [← eS58] at hI
    have hW : mW n S58 := by rw [eS58]; exact hW.put rfl
    refine z_if_eq (tgt := 72) hx hb dX5_arrive_66 (by decide) (by omega) (fun c59 => ?_) (fun c59 => ?_)
    · skip
      have c59 := zB_0 c59
      omega
    · skip
      have c59 := zB_1 c59
      refine z_bipush hx hb dX5_arrive_69 (by decide) ?_
      exact (ze_i (u' := (n, am, S58)) (z := 97) hx hb hr (iZ_narc (by omega) (by omega)).1 hI (by omega) (Or.inl ⟨by rw [(show kArrive S t y = 1 by unfold kArrive; repeat (first | rw [if_pos (by first | omega | assumption)] | rw [if_neg (by first | omega | assumption)]))]; decide, by rw [(show kArrive S t y = 1 by unfold kArrive; repeat (first | rw [if_pos (by first | omega | assumption)] | rw [if_neg (by first | omega | assumption)])), eS58]⟩) (Nat.le_of_ble_eq_true rfl) (Nat.le_of_ble_eq_true rfl) dX5_arrive_71 hlocks)
set_option maxHeartbeats 4000000 in
set_option maxRecDepth 100000 in
theorem c_X5_state (l : Launch) (D : va_G) (cA : Nat → ClassId) (n : Nat → Nat) (am : ts_Am) (S : ts_St) (sz : Nat) (t : Int) (hW : mW n S) (ht0 : iR t) (hR : mR S) : Met l yX5_state wsX5_state ({ frames := 2, cells := 0, slots := 0, locals := 43 } : Room) (va_Pc [.ref (am 0 0), .int (iZ t)] (zP TM D cA (n, am, S) sz)) (zQi TM D cA (n, am, S) sz (fun z u => (¬ kNone S t = 0 ∧ u = (n, am, up3 S 0 0 24 (kNone S t))) ∨ (kNone S t = 0 ∧ z = S 12 0 t.toNat ∧ u = (n, am, m0 S 0)))) 0 0 (ts_A (n, am, S) sz) := by
  refine zM_of (by decide) rfl (Nat.le_of_ble_eq_true rfl) ?_
  intro p e s m below meth c hx hb hr hts hown hlocks hml hname hK hsz H locs hI ls hl
  subst hsz
  have hown : s.vm.findClass RX5 = some m.cls := hown
  have hl : lv_has ls 2 [(0, .ref (am 0 0)), (1, .int (iZ t))] := hl
  have f39 := hts (.fieldLink RX5 39 "DockyardSlotsModel" "states" "[C") (by decide +kernel)
  have LX5 : ∀ w ∈ wsX50, w.before [.ref (am 0 0), .int (iZ t)].toArray s = true := fun w h => hts w (List.mem_cons_of_mem _ (List.mem_append_left _ (List.mem_append_right _ h)))
  have hR1 := hR.1
  refine lv_aload_n hx hb dX5_state_0 rfl (lv_at hl 0 rfl) ?_
  refine lv_aload_n hx hb dX5_state_1 rfl (lv_at hl 0 rfl) ?_
  refine lv_iload_n hx hb dX5_state_2 rfl (lv_at hl 1 rfl) ?_
  refine zc_i (zrV (As := [.int (iZ t)]) (rest := [.ref (am 0 0)]) (κ := 0) (i := 0) ⟨hx, hb, hml, hown, hts⟩ (c_X5_isNone l D cA n am S H.size t hW (by omega)) (cwV 1 hts gX5_state_X5_isNone rfl rfl rfl (by decide +kernel) ⟨Nat.le_of_ble_eq_true rfl, Nat.le_of_ble_eq_true rfl⟩) hK hI (hW.1 0 (by decide)) rfl rfl rfl hl.1 rfl (Nat.le_of_ble_eq_true rfl) dX5_state_3 ⟨Nat.le_of_ble_eq_true rfl, Nat.le_of_ble_eq_true rfl⟩) hI (fun z1 u9 H locs hz2 hp3 hI hfr => ?_)
  clear hfr
  obtain ⟨rfl, rfl⟩ := hp3
  refine z_if_eq (tgt := 13) hx hb dX5_state_6 (by decide) (by omega) (fun c4 => ?_) (fun c4 => ?_)
  · skip
    have c4 := zB_0 c4
    refine z_iconst hx hb dX5_state_13 ?_
    refine zc_i (zrV (As := [.int (iZ 0)]) (rest := []) (κ := 0) (i := 0) ⟨hx, hb, hml, hown, hts⟩ (c_X5_fails l D cA n am S H.size 0 hW (by omega)) (cwV 1 hts gX5_state_X5_fails rfl rfl rfl (by decide +kernel) ⟨Nat.le_of_ble_eq_true rfl, Nat.le_of_ble_eq_true rfl⟩) hK hI (hW.1 0 (by decide)) rfl rfl rfl hl.1 rfl (Nat.le_of_ble_eq_true rfl) dX5_state_14 ⟨Nat.le_of_ble_eq_true rfl, Nat.le_of_ble_eq_true rfl⟩) hI (fun z5 u9 H locs hz6 hp7 hI hfr => ?_)
    clear hfr
    obtain ⟨rfl, rfl⟩ := hp7
    obtain ⟨S8, eS8⟩ : ∃ z, z = up3 S 0 0 24 0 := ⟨_, rfl⟩
    rw [← eS8] at hI
    have hW : mW n S8 := by rw [eS8]; exact hW.put rfl
    refine z_if_eq (tgt := 25) hx hb dX5_state_17 (by decide) (by omega) (fun c9 => ?_) (fun c9 => ?_)
    · skip
      have c9 := zB_0 c9
      refine lv_aload_n hx hb dX5_state_25 rfl (lv_at hl 0 rfl) ?_
      refine zg_r (κ := 0) (i := 0) (k := 12) (t := 12) (j := 0) hx hb LX5 hown hK hI (hW.1 0 (by decide)) rfl rfl (by decide) rfl f39 (fun _ h9 => h9) dX5_state_26 (hW.rf 12 rfl) (fun v10 => ?_)
      refine lv_iload_n hx hb dX5_state_29 rfl (lv_at hl 1 rfl) ?_
      refine za_c (κ := 12) (i := 0) hx hb hK hI v10 rfl (by omega) (by omega) (by omega) dX5_state_30 (by rw [eS8, up3_n (by omega)]) (fun b11 => ?_)
      exact (ze_i (u' := (n, am, S8)) (z := S 12 0 t.toNat) hx hb hr (iZ_narc (by have := hR.2.2.1 t.toNat; omega) (by have := hR.2.2.1 t.toNat; omega)).1 hI (by omega) (Or.inr ⟨(show kNone S t = 0 by unfold kNone; repeat (first | rw [if_pos (by first | omega | assumption)] | rw [if_neg (by first | omega | assumption)])), rfl, by rw [eS8]⟩) (Nat.le_of_ble_eq_true rfl) (Nat.le_of_ble_eq_true rfl) dX5_state_31 hlocks)
    · skip
      have c9 := zB_1 c9
      omega
  · skip
    have c4 := zB_1 c4
    refine z_iconst hx hb dX5_state_9 ?_
    refine lv_goto (tgt := 14) hx hb dX5_state_10 (by decide) ?_
    refine zc_i (zrV (As := [.int (iZ 1)]) (rest := []) (κ := 0) (i := 0) ⟨hx, hb, hml, hown, hts⟩ (c_X5_fails l D cA n am S H.size 1 hW (by omega)) (cwV 1 hts gX5_state_X5_fails rfl rfl rfl (by decide +kernel) ⟨Nat.le_of_ble_eq_true rfl, Nat.le_of_ble_eq_true rfl⟩) hK hI (hW.1 0 (by decide)) rfl rfl rfl hl.1 rfl (Nat.le_of_ble_eq_true rfl) dX5_state_14 ⟨Nat.le_of_ble_eq_true rfl, Nat.le_of_ble_eq_true rfl⟩) hI (fun z12 u9 H locs hz13 hp14 hI hfr => ?_)
    clear hfr
    obtain ⟨rfl, rfl⟩ := hp14
    obtain ⟨S15, eS15⟩ : ∃ z, z = up3 S 0 0 24 1 := ⟨_, rfl⟩
    rw [← eS15] at hI
    have hW : mW n S15 := by rw [eS15]; exact hW.put rfl
    refine z_if_eq (tgt := 25) hx hb dX5_state_17 (by decide) (by omega) (fun c16 => ?_) (fun c16 => ?_)
    · skip
      have c16 := zB_0 c16
      omega
    · skip
      have c16 := zB_1 c16
      refine z_bipush hx hb dX5_state_20 (by decide) ?_
      refine lv_goto (tgt := 31) hx hb dX5_state_22 (by decide) ?_
      exact (ze_i (u' := (n, am, S15)) (z := 97) hx hb hr (iZ_narc (by omega) (by omega)).1 hI (by omega) (Or.inl ⟨by rw [(show kNone S t = 1 by unfold kNone; repeat (first | rw [if_pos (by first | omega | assumption)] | rw [if_neg (by first | omega | assumption)]))]; decide, by rw [(show kNone S t = 1 by unfold kNone; repeat (first | rw [if_pos (by first | omega | assumption)] | rw [if_neg (by first | omega | assumption)])), eS15]⟩) (Nat.le_of_ble_eq_true rfl) (Nat.le_of_ble_eq_true rfl) dX5_state_31 hlocks)
set_option maxHeartbeats 4000000 in
set_option maxRecDepth 100000 in
theorem c_X5_hasNotCome (l : Launch) (D : va_G) (cA : Nat → ClassId) (n : Nat → Nat) (am : ts_Am) (S : ts_St) (sz : Nat) (t : Int) (hW : mW n S) (ht0 : iR t) (hR : mR S) : Met l yX5_hasNotCome wsX5_hasNotCome ({ frames := 2, cells := 0, slots := 0, locals := 43 } : Room) (va_Pc [.ref (am 0 0), .int (iZ t)] (zP TM D cA (n, am, S) sz)) (zQi TM D cA (n, am, S) sz (fun z u => z = zB (0 < kNotCome S t) ∧ u = (n, am, up3 S 0 0 24 (kNotCome S t)))) 0 0 (ts_A (n, am, S) sz) := by
  refine zM_of (by decide) rfl (Nat.le_of_ble_eq_true rfl) ?_
  intro p e s m below meth c hx hb hr hts hown hlocks hml hname hK hsz H locs hI ls hl
  subst hsz
  have hown : s.vm.findClass RX5 = some m.cls := hown
  have hl : lv_has ls 2 [(0, .ref (am 0 0)), (1, .int (iZ t))] := hl
  have f39 := hts (.fieldLink RX5 39 "DockyardSlotsModel" "states" "[C") (by decide +kernel)
  have LX5 : ∀ w ∈ wsX50, w.before [.ref (am 0 0), .int (iZ t)].toArray s = true := fun w h => hts w (List.mem_cons_of_mem _ (List.mem_append_left _ (List.mem_append_right _ h)))
  have hR1 := hR.1
  refine lv_aload_n hx hb dX5_hasNotCome_0 rfl (lv_at hl 0 rfl) ?_
  refine lv_aload_n hx hb dX5_hasNotCome_1 rfl (lv_at hl 0 rfl) ?_
  refine lv_iload_n hx hb dX5_hasNotCome_2 rfl (lv_at hl 1 rfl) ?_
  refine zc_i (zrV (As := [.int (iZ t)]) (rest := [.ref (am 0 0)]) (κ := 0) (i := 0) ⟨hx, hb, hml, hown, hts⟩ (c_X5_isNone l D cA n am S H.size t hW (by omega)) (cwV 1 hts gX5_hasNotCome_X5_isNone rfl rfl rfl (by decide +kernel) ⟨Nat.le_of_ble_eq_true rfl, Nat.le_of_ble_eq_true rfl⟩) hK hI (hW.1 0 (by decide)) rfl rfl rfl hl.1 rfl (Nat.le_of_ble_eq_true rfl) dX5_hasNotCome_3 ⟨Nat.le_of_ble_eq_true rfl, Nat.le_of_ble_eq_true rfl⟩) hI (fun z1 u9 H locs hz2 hp3 hI hfr => ?_)
  clear hfr
  obtain ⟨rfl, rfl⟩ := hp3
  refine z_if_eq (tgt := 13) hx hb dX5_hasNotCome_6 (by decide) (by omega) (fun c4 => ?_) (fun c4 => ?_)
  · skip
    have c4 := zB_0 c4
    refine lv_aload_n hx hb dX5_hasNotCome_13 rfl (lv_at hl 0 rfl) ?_
    refine zg_r (κ := 0) (i := 0) (k := 12) (t := 12) (j := 0) hx hb LX5 hown hK hI (hW.1 0 (by decide)) rfl rfl (by decide) rfl f39 (fun _ h9 => h9) dX5_hasNotCome_14 (hW.rf 12 rfl) (fun v5 => ?_)
    refine lv_iload_n hx hb dX5_hasNotCome_17 rfl (lv_at hl 1 rfl) ?_
    refine za_c (κ := 12) (i := 0) hx hb hK hI v5 rfl (by omega) (by omega) (by omega) dX5_hasNotCome_18 rfl (fun b6 => ?_)
    refine z_bipush hx hb dX5_hasNotCome_19 (by decide) ?_
    refine z_icmp_eq (tgt := 35) hx hb dX5_hasNotCome_21 (by decide) (by omega) (by omega) (fun c7 => ?_) (fun c7 => ?_)
    · skip
      refine z_iconst hx hb dX5_hasNotCome_35 ?_
      refine lv_goto (tgt := 40) hx hb dX5_hasNotCome_36 (by decide) ?_
      refine zc_i (zrV (As := [.int (iZ 2)]) (rest := []) (κ := 0) (i := 0) ⟨hx, hb, hml, hown, hts⟩ (c_X5_fails l D cA n am S H.size 2 hW (by omega)) (cwV 1 hts gX5_hasNotCome_X5_fails rfl rfl rfl (by decide +kernel) ⟨Nat.le_of_ble_eq_true rfl, Nat.le_of_ble_eq_true rfl⟩) hK hI (hW.1 0 (by decide)) rfl rfl rfl hl.1 rfl (Nat.le_of_ble_eq_true rfl) dX5_hasNotCome_40 ⟨Nat.le_of_ble_eq_true rfl, Nat.le_of_ble_eq_true rfl⟩) hI (fun z8 u9 H locs hz9 hp10 hI hfr => ?_)
      clear hfr
      obtain ⟨rfl, rfl⟩ := hp10
      obtain ⟨S11, eS11⟩ : ∃ z, z = up3 S 0 0 24 2 := ⟨_, rfl⟩
      rw [← eS11] at hI
      have hW : mW n S11 := by rw [eS11]; exact hW.put rfl
      exact (ze_i (u' := (n, am, S11)) (z := zB (0 < 2)) hx hb hr (iZ_narz (zB_R _).1 (zB_R _).2).1 hI (zB_iR _) (by have hK : kNotCome S t = 2 := (by unfold kNotCome; repeat (first | rw [if_pos (by first | omega | assumption)] | rw [if_neg (by first | omega | assumption)])); rw [hK]; exact ⟨rfl, by rw [eS11]⟩) (Nat.le_of_ble_eq_true rfl) (Nat.le_of_ble_eq_true rfl) dX5_hasNotCome_43 hlocks)
    · skip
      refine lv_aload_n hx hb dX5_hasNotCome_24 rfl (lv_at hl 0 rfl) ?_
      refine zg_r (κ := 0) (i := 0) (k := 12) (t := 12) (j := 0) hx hb LX5 hown hK hI (hW.1 0 (by decide)) rfl rfl (by decide) rfl f39 (fun _ h9 => h9) dX5_hasNotCome_25 (hW.rf 12 rfl) (fun v12 => ?_)
      refine lv_iload_n hx hb dX5_hasNotCome_28 rfl (lv_at hl 1 rfl) ?_
      refine za_c (κ := 12) (i := 0) hx hb hK hI v12 rfl (by omega) (by omega) (by omega) dX5_hasNotCome_29 rfl (fun b13 => ?_)
      refine z_bipush hx hb dX5_hasNotCome_30 (by decide) ?_
      refine z_icmp_ne (tgt := 39) hx hb dX5_hasNotCome_32 (by decide) (by omega) (by omega) (fun c14 => ?_) (fun c14 => ?_)
      · skip
        refine z_iconst hx hb dX5_hasNotCome_39 ?_
        refine zc_i (zrV (As := [.int (iZ 0)]) (rest := []) (κ := 0) (i := 0) ⟨hx, hb, hml, hown, hts⟩ (c_X5_fails l D cA n am S H.size 0 hW (by omega)) (cwV 1 hts gX5_hasNotCome_X5_fails rfl rfl rfl (by decide +kernel) ⟨Nat.le_of_ble_eq_true rfl, Nat.le_of_ble_eq_true rfl⟩) hK hI (hW.1 0 (by decide)) rfl rfl rfl hl.1 rfl (Nat.le_of_ble_eq_true rfl) dX5_hasNotCome_40 ⟨Nat.le_of_ble_eq_true rfl, Nat.le_of_ble_eq_true rfl⟩) hI (fun z15 u9 H locs hz16 hp17 hI hfr => ?_)
        clear hfr
        obtain ⟨rfl, rfl⟩ := hp17
        obtain ⟨S18, eS18⟩ : ∃ z, z = up3 S 0 0 24 0 := ⟨_, rfl⟩
        rw [← eS18] at hI
        have hW : mW n S18 := by rw [eS18]; exact hW.put rfl
        exact (ze_i (u' := (n, am, S18)) (z := zB (0 < 0)) hx hb hr (iZ_narz (zB_R _).1 (zB_R _).2).1 hI (zB_iR _) (by have hK : kNotCome S t = 0 := (by unfold kNotCome; repeat (first | rw [if_pos (by first | omega | assumption)] | rw [if_neg (by first | omega | assumption)])); rw [hK]; exact ⟨rfl, by rw [eS18]⟩) (Nat.le_of_ble_eq_true rfl) (Nat.le_of_ble_eq_true rfl) dX5_hasNotCome_43 hlocks)
      · skip
        refine z_iconst hx hb dX5_hasNotCome_35 ?_
        refine lv_goto (tgt := 40) hx hb dX5_hasNotCome_36 (by decide) ?_
        refine zc_i (zrV (As := [.int (iZ 2)]) (rest := []) (κ := 0) (i := 0) ⟨hx, hb, hml, hown, hts⟩ (c_X5_fails l D cA n am S H.size 2 hW (by omega)) (cwV 1 hts gX5_hasNotCome_X5_fails rfl rfl rfl (by decide +kernel) ⟨Nat.le_of_ble_eq_true rfl, Nat.le_of_ble_eq_true rfl⟩) hK hI (hW.1 0 (by decide)) rfl rfl rfl hl.1 rfl (Nat.le_of_ble_eq_true rfl) dX5_hasNotCome_40 ⟨Nat.le_of_ble_eq_true rfl, Nat.le_of_ble_eq_true rfl⟩) hI (fun z19 u9 H locs hz20 hp21 hI hfr => ?_)
        clear hfr
        obtain ⟨rfl, rfl⟩ := hp21
        obtain ⟨S22, eS22⟩ : ∃ z, z = up3 S 0 0 24 2 := ⟨_, rfl⟩
        rw [← eS22] at hI
        have hW : mW n S22 := by rw [eS22]; exact hW.put rfl
        exact (ze_i (u' := (n, am, S22)) (z := zB (0 < 2)) hx hb hr (iZ_narz (zB_R _).1 (zB_R _).2).1 hI (zB_iR _) (by have hK : kNotCome S t = 2 := (by unfold kNotCome; repeat (first | rw [if_pos (by first | omega | assumption)] | rw [if_neg (by first | omega | assumption)])); rw [hK]; exact ⟨rfl, by rw [eS22]⟩) (Nat.le_of_ble_eq_true rfl) (Nat.le_of_ble_eq_true rfl) dX5_hasNotCome_43 hlocks)
  · skip
    have c4 := zB_1 c4
    refine z_iconst hx hb dX5_hasNotCome_9 ?_
    refine lv_goto (tgt := 40) hx hb dX5_hasNotCome_10 (by decide) ?_
    refine zc_i (zrV (As := [.int (iZ 1)]) (rest := []) (κ := 0) (i := 0) ⟨hx, hb, hml, hown, hts⟩ (c_X5_fails l D cA n am S H.size 1 hW (by omega)) (cwV 1 hts gX5_hasNotCome_X5_fails rfl rfl rfl (by decide +kernel) ⟨Nat.le_of_ble_eq_true rfl, Nat.le_of_ble_eq_true rfl⟩) hK hI (hW.1 0 (by decide)) rfl rfl rfl hl.1 rfl (Nat.le_of_ble_eq_true rfl) dX5_hasNotCome_40 ⟨Nat.le_of_ble_eq_true rfl, Nat.le_of_ble_eq_true rfl⟩) hI (fun z23 u9 H locs hz24 hp25 hI hfr => ?_)
    clear hfr
    obtain ⟨rfl, rfl⟩ := hp25
    obtain ⟨S26, eS26⟩ : ∃ z, z = up3 S 0 0 24 1 := ⟨_, rfl⟩
    rw [← eS26] at hI
    have hW : mW n S26 := by rw [eS26]; exact hW.put rfl
    exact (ze_i (u' := (n, am, S26)) (z := zB (0 < 1)) hx hb hr (iZ_narz (zB_R _).1 (zB_R _).2).1 hI (zB_iR _) (by have hK : kNotCome S t = 1 := (by unfold kNotCome; repeat (first | rw [if_pos (by first | omega | assumption)] | rw [if_neg (by first | omega | assumption)])); rw [hK]; exact ⟨rfl, by rw [eS26]⟩) (Nat.le_of_ble_eq_true rfl) (Nat.le_of_ble_eq_true rfl) dX5_hasNotCome_43 hlocks)
set_option maxHeartbeats 4000000 in
set_option maxRecDepth 100000 in
theorem c_X5_isElsewhere (l : Launch) (D : va_G) (cA : Nat → ClassId) (n : Nat → Nat) (am : ts_Am) (S : ts_St) (sz : Nat) (t : Int) (hW : mW n S) (ht0 : iR t) (hR : mR S) : Met l yX5_isElsewhere wsX5_isElsewhere ({ frames := 2, cells := 0, slots := 0, locals := 43 } : Room) (va_Pc [.ref (am 0 0), .int (iZ t)] (zP TM D cA (n, am, S) sz)) (zQi TM D cA (n, am, S) sz (fun z u => z = zB (0 < kElse S t) ∧ u = (n, am, up3 S 0 0 24 (kElse S t)))) 0 0 (ts_A (n, am, S) sz) := by
  refine zM_of (by decide) rfl (Nat.le_of_ble_eq_true rfl) ?_
  intro p e s m below meth c hx hb hr hts hown hlocks hml hname hK hsz H locs hI ls hl
  subst hsz
  have hown : s.vm.findClass RX5 = some m.cls := hown
  have hl : lv_has ls 2 [(0, .ref (am 0 0)), (1, .int (iZ t))] := hl
  have f39 := hts (.fieldLink RX5 39 "DockyardSlotsModel" "states" "[C") (by decide +kernel)
  have LX5 : ∀ w ∈ wsX50, w.before [.ref (am 0 0), .int (iZ t)].toArray s = true := fun w h => hts w (List.mem_cons_of_mem _ (List.mem_append_left _ (List.mem_append_right _ h)))
  have hR1 := hR.1
  refine lv_aload_n hx hb dX5_isElsewhere_0 rfl (lv_at hl 0 rfl) ?_
  refine lv_aload_n hx hb dX5_isElsewhere_1 rfl (lv_at hl 0 rfl) ?_
  refine lv_iload_n hx hb dX5_isElsewhere_2 rfl (lv_at hl 1 rfl) ?_
  refine zc_i (zrV (As := [.int (iZ t)]) (rest := [.ref (am 0 0)]) (κ := 0) (i := 0) ⟨hx, hb, hml, hown, hts⟩ (c_X5_isNone l D cA n am S H.size t hW (by omega)) (cwV 1 hts gX5_isElsewhere_X5_isNone rfl rfl rfl (by decide +kernel) ⟨Nat.le_of_ble_eq_true rfl, Nat.le_of_ble_eq_true rfl⟩) hK hI (hW.1 0 (by decide)) rfl rfl rfl hl.1 rfl (Nat.le_of_ble_eq_true rfl) dX5_isElsewhere_3 ⟨Nat.le_of_ble_eq_true rfl, Nat.le_of_ble_eq_true rfl⟩) hI (fun z1 u9 H locs hz2 hp3 hI hfr => ?_)
  clear hfr
  obtain ⟨rfl, rfl⟩ := hp3
  refine z_if_eq (tgt := 13) hx hb dX5_isElsewhere_6 (by decide) (by omega) (fun c4 => ?_) (fun c4 => ?_)
  · skip
    have c4 := zB_0 c4
    refine lv_aload_n hx hb dX5_isElsewhere_13 rfl (lv_at hl 0 rfl) ?_
    refine zg_r (κ := 0) (i := 0) (k := 12) (t := 12) (j := 0) hx hb LX5 hown hK hI (hW.1 0 (by decide)) rfl rfl (by decide) rfl f39 (fun _ h9 => h9) dX5_isElsewhere_14 (hW.rf 12 rfl) (fun v5 => ?_)
    refine lv_iload_n hx hb dX5_isElsewhere_17 rfl (lv_at hl 1 rfl) ?_
    refine za_c (κ := 12) (i := 0) hx hb hK hI v5 rfl (by omega) (by omega) (by omega) dX5_isElsewhere_18 rfl (fun b6 => ?_)
    refine z_bipush hx hb dX5_isElsewhere_19 (by decide) ?_
    refine z_icmp_eq (tgt := 28) hx hb dX5_isElsewhere_21 (by decide) (by omega) (by omega) (fun c7 => ?_) (fun c7 => ?_)
    · skip
      refine z_iconst hx hb dX5_isElsewhere_28 ?_
      refine zc_i (zrV (As := [.int (iZ 0)]) (rest := []) (κ := 0) (i := 0) ⟨hx, hb, hml, hown, hts⟩ (c_X5_fails l D cA n am S H.size 0 hW (by omega)) (cwV 1 hts gX5_isElsewhere_X5_fails rfl rfl rfl (by decide +kernel) ⟨Nat.le_of_ble_eq_true rfl, Nat.le_of_ble_eq_true rfl⟩) hK hI (hW.1 0 (by decide)) rfl rfl rfl hl.1 rfl (Nat.le_of_ble_eq_true rfl) dX5_isElsewhere_29 ⟨Nat.le_of_ble_eq_true rfl, Nat.le_of_ble_eq_true rfl⟩) hI (fun z8 u9 H locs hz9 hp10 hI hfr => ?_)
      clear hfr
      obtain ⟨rfl, rfl⟩ := hp10
      obtain ⟨S11, eS11⟩ : ∃ z, z = up3 S 0 0 24 0 := ⟨_, rfl⟩
      rw [← eS11] at hI
      have hW : mW n S11 := by rw [eS11]; exact hW.put rfl
      exact (ze_i (u' := (n, am, S11)) (z := zB (0 < 0)) hx hb hr (iZ_narz (zB_R _).1 (zB_R _).2).1 hI (zB_iR _) (by have hK : kElse S t = 0 := (by unfold kElse; repeat (first | rw [if_pos (by first | omega | assumption)] | rw [if_neg (by first | omega | assumption)])); rw [hK]; exact ⟨rfl, by rw [eS11]⟩) (Nat.le_of_ble_eq_true rfl) (Nat.le_of_ble_eq_true rfl) dX5_isElsewhere_32 hlocks)
    · skip
      refine z_iconst hx hb dX5_isElsewhere_24 ?_
      refine lv_goto (tgt := 29) hx hb dX5_isElsewhere_25 (by decide) ?_
      refine zc_i (zrV (As := [.int (iZ 2)]) (rest := []) (κ := 0) (i := 0) ⟨hx, hb, hml, hown, hts⟩ (c_X5_fails l D cA n am S H.size 2 hW (by omega)) (cwV 1 hts gX5_isElsewhere_X5_fails rfl rfl rfl (by decide +kernel) ⟨Nat.le_of_ble_eq_true rfl, Nat.le_of_ble_eq_true rfl⟩) hK hI (hW.1 0 (by decide)) rfl rfl rfl hl.1 rfl (Nat.le_of_ble_eq_true rfl) dX5_isElsewhere_29 ⟨Nat.le_of_ble_eq_true rfl, Nat.le_of_ble_eq_true rfl⟩) hI (fun z12 u9 H locs hz13 hp14 hI hfr => ?_)
      clear hfr
      obtain ⟨rfl, rfl⟩ := hp14
      obtain ⟨S15, eS15⟩ : ∃ z, z = up3 S 0 0 24 2 := ⟨_, rfl⟩
      rw [← eS15] at hI
      have hW : mW n S15 := by rw [eS15]; exact hW.put rfl
      exact (ze_i (u' := (n, am, S15)) (z := zB (0 < 2)) hx hb hr (iZ_narz (zB_R _).1 (zB_R _).2).1 hI (zB_iR _) (by have hK : kElse S t = 2 := (by unfold kElse; repeat (first | rw [if_pos (by first | omega | assumption)] | rw [if_neg (by first | omega | assumption)])); rw [hK]; exact ⟨rfl, by rw [eS15]⟩) (Nat.le_of_ble_eq_true rfl) (Nat.le_of_ble_eq_true rfl) dX5_isElsewhere_32 hlocks)
  · skip
    have c4 := zB_1 c4
    refine z_iconst hx hb dX5_isElsewhere_9 ?_
    refine lv_goto (tgt := 29) hx hb dX5_isElsewhere_10 (by decide) ?_
    refine zc_i (zrV (As := [.int (iZ 1)]) (rest := []) (κ := 0) (i := 0) ⟨hx, hb, hml, hown, hts⟩ (c_X5_fails l D cA n am S H.size 1 hW (by omega)) (cwV 1 hts gX5_isElsewhere_X5_fails rfl rfl rfl (by decide +kernel) ⟨Nat.le_of_ble_eq_true rfl, Nat.le_of_ble_eq_true rfl⟩) hK hI (hW.1 0 (by decide)) rfl rfl rfl hl.1 rfl (Nat.le_of_ble_eq_true rfl) dX5_isElsewhere_29 ⟨Nat.le_of_ble_eq_true rfl, Nat.le_of_ble_eq_true rfl⟩) hI (fun z16 u9 H locs hz17 hp18 hI hfr => ?_)
    clear hfr
    obtain ⟨rfl, rfl⟩ := hp18
    obtain ⟨S19, eS19⟩ : ∃ z, z = up3 S 0 0 24 1 := ⟨_, rfl⟩
    rw [← eS19] at hI
    have hW : mW n S19 := by rw [eS19]; exact hW.put rfl
    exact (ze_i (u' := (n, am, S19)) (z := zB (0 < 1)) hx hb hr (iZ_narz (zB_R _).1 (zB_R _).2).1 hI (zB_iR _) (by have hK : kElse S t = 1 := (by unfold kElse; repeat (first | rw [if_pos (by first | omega | assumption)] | rw [if_neg (by first | omega | assumption)])); rw [hK]; exact ⟨rfl, by rw [eS19]⟩) (Nat.le_of_ble_eq_true rfl) (Nat.le_of_ble_eq_true rfl) dX5_isElsewhere_32 hlocks)
set_option maxHeartbeats 4000000 in
set_option maxRecDepth 100000 in
theorem c_X5_punctuality (l : Launch) (D : va_G) (cA : Nat → ClassId) (n : Nat → Nat) (am : ts_Am) (S : ts_St) (sz : Nat) (t : Int) (hW : mW n S) (ht0 : iR t) (hR : mR S) : Met l yX5_punctuality wsX5_punctuality ({ frames := 3, cells := 0, slots := 0, locals := 64 } : Room) (va_Pc [.ref (am 0 0), .int (iZ t)] (zP TM D cA (n, am, S) sz)) (zQi TM D cA (n, am, S) sz (fun z u => (¬ kNotCome S t = 0 ∧ u = (n, am, up3 S 0 0 24 (kNotCome S t))) ∨ (kNotCome S t = 0 ∧ z = mPunc S t.toNat ∧ u = (n, am, m0 S 0)))) 0 0 (ts_A (n, am, S) sz) := by
  refine zM_of (by decide) rfl (Nat.le_of_ble_eq_true rfl) ?_
  intro p e s m below meth c hx hb hr hts hown hlocks hml hname hK hsz H locs hI ls hl
  subst hsz
  have hown : s.vm.findClass RX5 = some m.cls := hown
  have hl : lv_has ls 2 [(0, .ref (am 0 0)), (1, .int (iZ t))] := hl
  have hR1 := hR.1
  have hK0 := kNotCome_0 S t
  refine lv_aload_n hx hb dX5_punctuality_0 rfl (lv_at hl 0 rfl) ?_
  refine lv_iload_n hx hb dX5_punctuality_1 rfl (lv_at hl 1 rfl) ?_
  refine zc_i (zrV (As := [.int (iZ t)]) (rest := []) (κ := 0) (i := 0) ⟨hx, hb, hml, hown, hts⟩ (c_X5_hasNotCome l D cA n am S H.size t hW (by omega) hR) (cwV 1 hts gX5_punctuality_X5_hasNotCome rfl rfl rfl (by decide +kernel) ⟨Nat.le_of_ble_eq_true rfl, Nat.le_of_ble_eq_true rfl⟩) hK hI (hW.1 0 (by decide)) rfl rfl rfl hl.1 rfl (Nat.le_of_ble_eq_true rfl) dX5_punctuality_2 ⟨Nat.le_of_ble_eq_true rfl, Nat.le_of_ble_eq_true rfl⟩) hI (fun z1 u9 H locs hz2 hp3 hI hfr => ?_)
  clear hfr
  obtain ⟨rfl, rfl⟩ := hp3
  obtain ⟨S4, eS4⟩ : ∃ z, z = up3 S 0 0 24 (kNotCome S t) := ⟨_, rfl⟩
  rw [← eS4] at hI
  have hW : mW n S4 := by rw [eS4]; exact hW.put rfl
  refine z_if_eq (tgt := 13) hx hb dX5_punctuality_5 (by decide) (by omega) (fun c5 => ?_) (fun c5 => ?_)
  · skip
    have c5 := zB_0 c5
    have hK0 := kNotCome_0 S t
    have hin := kNotCome_in (S := S) (t := t) (by omega)
    refine lv_aload_n hx hb dX5_punctuality_13 rfl (lv_at hl 0 rfl) ?_
    refine lv_iload_n hx hb dX5_punctuality_14 rfl (lv_at hl 1 rfl) ?_
    refine zc_i (zrV (As := [.int (iZ t)]) (rest := []) (κ := 0) (i := 0) ⟨hx, hb, hml, hown, hts⟩ (c_X5_punctual l D cA n am S4 H.size t hW (by omega)) (cwV 1 hts gX5_punctuality_X5_punctual rfl rfl rfl (by decide +kernel) ⟨Nat.le_of_ble_eq_true rfl, Nat.le_of_ble_eq_true rfl⟩) hK hI (hW.1 0 (by decide)) rfl rfl rfl hl.1 rfl (Nat.le_of_ble_eq_true rfl) dX5_punctuality_15 ⟨Nat.le_of_ble_eq_true rfl, Nat.le_of_ble_eq_true rfl⟩) hI (fun z6 u9 H locs hz7 hp8 hI hfr => ?_)
    clear hfr
    obtain ⟨rfl, rfl⟩ := hp8
    exact (ze_i (u' := (n, am, S4)) (z := mPunc S4 t.toNat) hx hb hr (iZ_narc (by have := mPunc_R S4 t.toNat; omega) (by have := mPunc_R S4 t.toNat; omega)).1 hI (by have := mPunc_R S4 t.toNat; omega) (Or.inr ⟨by omega, by first | rfl | (rw [eS4]; rfl), by rw [eS4, show kNotCome S t = 0 by omega]⟩) (Nat.le_of_ble_eq_true rfl) (Nat.le_of_ble_eq_true rfl) dX5_punctuality_18 hlocks)
  · skip
    have c5 := zB_1 c5
    refine z_bipush hx hb dX5_punctuality_8 (by decide) ?_
    refine lv_goto (tgt := 18) hx hb dX5_punctuality_10 (by decide) ?_
    exact (ze_i (u' := (n, am, S4)) (z := 97) hx hb hr (iZ_narc (by omega) (by omega)).1 hI (by omega) (Or.inl ⟨by omega, by rw [eS4]⟩) (Nat.le_of_ble_eq_true rfl) (Nat.le_of_ble_eq_true rfl) dX5_punctuality_18 hlocks)
set_option maxHeartbeats 4000000 in
set_option maxRecDepth 100000 in
theorem c_X5_waited (l : Launch) (D : va_G) (cA : Nat → ClassId) (n : Nat → Nat) (am : ts_Am) (S : ts_St) (sz : Nat) (t : Int) (hW : mW n S) (ht0 : iR t) (hR : mR S) : Met l yX5_waited wsX5_waited ({ frames := 3, cells := 0, slots := 0, locals := 64 } : Room) (va_Pc [.ref (am 0 0), .int (iZ t)] (zP TM D cA (n, am, S) sz)) (zQi TM D cA (n, am, S) sz (fun z u => (¬ kNotCome S t = 0 ∧ u = (n, am, up3 S 0 0 24 (kNotCome S t))) ∨ (kNotCome S t = 0 ∧ z = mWait S t.toNat ∧ u = (n, am, m0 S 0)))) 0 0 (ts_A (n, am, S) sz) := by
  refine zM_of (by decide) rfl (Nat.le_of_ble_eq_true rfl) ?_
  intro p e s m below meth c hx hb hr hts hown hlocks hml hname hK hsz H locs hI ls hl
  subst hsz
  have hown : s.vm.findClass RX5 = some m.cls := hown
  have hl : lv_has ls 2 [(0, .ref (am 0 0)), (1, .int (iZ t))] := hl
  have hR1 := hR.1
  have hK0 := kNotCome_0 S t
  refine lv_aload_n hx hb dX5_waited_0 rfl (lv_at hl 0 rfl) ?_
  refine lv_iload_n hx hb dX5_waited_1 rfl (lv_at hl 1 rfl) ?_
  refine zc_i (zrV (As := [.int (iZ t)]) (rest := []) (κ := 0) (i := 0) ⟨hx, hb, hml, hown, hts⟩ (c_X5_hasNotCome l D cA n am S H.size t hW (by omega) hR) (cwV 1 hts gX5_waited_X5_hasNotCome rfl rfl rfl (by decide +kernel) ⟨Nat.le_of_ble_eq_true rfl, Nat.le_of_ble_eq_true rfl⟩) hK hI (hW.1 0 (by decide)) rfl rfl rfl hl.1 rfl (Nat.le_of_ble_eq_true rfl) dX5_waited_2 ⟨Nat.le_of_ble_eq_true rfl, Nat.le_of_ble_eq_true rfl⟩) hI (fun z1 u9 H locs hz2 hp3 hI hfr => ?_)
  clear hfr
  obtain ⟨rfl, rfl⟩ := hp3
  obtain ⟨S4, eS4⟩ : ∃ z, z = up3 S 0 0 24 (kNotCome S t) := ⟨_, rfl⟩
  rw [← eS4] at hI
  have hW : mW n S4 := by rw [eS4]; exact hW.put rfl
  refine z_if_eq (tgt := 12) hx hb dX5_waited_5 (by decide) (by omega) (fun c5 => ?_) (fun c5 => ?_)
  · skip
    have c5 := zB_0 c5
    have hK0 := kNotCome_0 S t
    have hin := kNotCome_in (S := S) (t := t) (by omega)
    refine lv_aload_n hx hb dX5_waited_12 rfl (lv_at hl 0 rfl) ?_
    refine lv_iload_n hx hb dX5_waited_13 rfl (lv_at hl 1 rfl) ?_
    refine zc_i (zrV (As := [.int (iZ t)]) (rest := []) (κ := 0) (i := 0) ⟨hx, hb, hml, hown, hts⟩ (c_X5_waits l D cA n am S4 H.size t hW (by omega)) (cwV 1 hts gX5_waited_X5_waits rfl rfl rfl (by decide +kernel) ⟨Nat.le_of_ble_eq_true rfl, Nat.le_of_ble_eq_true rfl⟩) hK hI (hW.1 0 (by decide)) rfl rfl rfl hl.1 rfl (Nat.le_of_ble_eq_true rfl) dX5_waited_14 ⟨Nat.le_of_ble_eq_true rfl, Nat.le_of_ble_eq_true rfl⟩) hI (fun z6 u9 H locs hz7 hp8 hI hfr => ?_)
    clear hfr
    obtain ⟨rfl, rfl⟩ := hp8
    exact (ze_i (u' := (n, am, S4)) (z := mWait S4 t.toNat) hx hb hr rfl hI (by have := mWait_R (S := S4) (by rw [eS4]; exact hR.put (by unfold mRv; omega)) t.toNat; omega) (Or.inr ⟨by omega, by first | rfl | (rw [eS4]; rfl), by rw [eS4, show kNotCome S t = 0 by omega]⟩) (Nat.le_of_ble_eq_true rfl) (Nat.le_of_ble_eq_true rfl) dX5_waited_17 hlocks)
  · skip
    have c5 := zB_1 c5
    refine z_iconst hx hb dX5_waited_8 ?_
    refine lv_goto (tgt := 17) hx hb dX5_waited_9 (by decide) ?_
    exact (ze_i (u' := (n, am, S4)) (z := 0) hx hb hr rfl hI (by omega) (Or.inl ⟨by omega, by rw [eS4]⟩) (Nat.le_of_ble_eq_true rfl) (Nat.le_of_ble_eq_true rfl) dX5_waited_17 hlocks)
set_option maxHeartbeats 4000000 in
set_option maxRecDepth 100000 in
theorem c_X5_charge (l : Launch) (D : va_G) (cA : Nat → ClassId) (n : Nat → Nat) (am : ts_Am) (S : ts_St) (sz : Nat) (t : Int) (hW : mW n S) (ht0 : iR t) (hR : mR S) : Met l yX5_charge wsX5_charge ({ frames := 3, cells := 0, slots := 0, locals := 64 } : Room) (va_Pc [.ref (am 0 0), .int (iZ t)] (zP TM D cA (n, am, S) sz)) (zQi TM D cA (n, am, S) sz (fun z u => (¬ kNotCome S t = 0 ∧ u = (n, am, up3 S 0 0 24 (kNotCome S t))) ∨ (kNotCome S t = 0 ∧ z = mCost S t.toNat ∧ u = (n, am, m0 S 0)))) 0 0 (ts_A (n, am, S) sz) := by
  refine zM_of (by decide) rfl (Nat.le_of_ble_eq_true rfl) ?_
  intro p e s m below meth c hx hb hr hts hown hlocks hml hname hK hsz H locs hI ls hl
  subst hsz
  have hown : s.vm.findClass RX5 = some m.cls := hown
  have hl : lv_has ls 2 [(0, .ref (am 0 0)), (1, .int (iZ t))] := hl
  have hR1 := hR.1
  have hK0 := kNotCome_0 S t
  refine lv_aload_n hx hb dX5_charge_0 rfl (lv_at hl 0 rfl) ?_
  refine lv_iload_n hx hb dX5_charge_1 rfl (lv_at hl 1 rfl) ?_
  refine zc_i (zrV (As := [.int (iZ t)]) (rest := []) (κ := 0) (i := 0) ⟨hx, hb, hml, hown, hts⟩ (c_X5_hasNotCome l D cA n am S H.size t hW (by omega) hR) (cwV 1 hts gX5_charge_X5_hasNotCome rfl rfl rfl (by decide +kernel) ⟨Nat.le_of_ble_eq_true rfl, Nat.le_of_ble_eq_true rfl⟩) hK hI (hW.1 0 (by decide)) rfl rfl rfl hl.1 rfl (Nat.le_of_ble_eq_true rfl) dX5_charge_2 ⟨Nat.le_of_ble_eq_true rfl, Nat.le_of_ble_eq_true rfl⟩) hI (fun z1 u9 H locs hz2 hp3 hI hfr => ?_)
  clear hfr
  obtain ⟨rfl, rfl⟩ := hp3
  obtain ⟨S4, eS4⟩ : ∃ z, z = up3 S 0 0 24 (kNotCome S t) := ⟨_, rfl⟩
  rw [← eS4] at hI
  have hW : mW n S4 := by rw [eS4]; exact hW.put rfl
  refine z_if_eq (tgt := 12) hx hb dX5_charge_5 (by decide) (by omega) (fun c5 => ?_) (fun c5 => ?_)
  · skip
    have c5 := zB_0 c5
    have hK0 := kNotCome_0 S t
    have hin := kNotCome_in (S := S) (t := t) (by omega)
    refine lv_aload_n hx hb dX5_charge_12 rfl (lv_at hl 0 rfl) ?_
    refine lv_iload_n hx hb dX5_charge_13 rfl (lv_at hl 1 rfl) ?_
    refine zc_i (zrV (As := [.int (iZ t)]) (rest := []) (κ := 0) (i := 0) ⟨hx, hb, hml, hown, hts⟩ (c_X5_costs l D cA n am S4 H.size t hW (by omega) (by rw [eS4]; exact hR.put (by unfold mRv; omega))) (cwV 1 hts gX5_charge_X5_costs rfl rfl rfl (by decide +kernel) ⟨Nat.le_of_ble_eq_true rfl, Nat.le_of_ble_eq_true rfl⟩) hK hI (hW.1 0 (by decide)) rfl rfl rfl hl.1 rfl (Nat.le_of_ble_eq_true rfl) dX5_charge_14 ⟨Nat.le_of_ble_eq_true rfl, Nat.le_of_ble_eq_true rfl⟩) hI (fun z6 u9 H locs hz7 hp8 hI hfr => ?_)
    clear hfr
    obtain ⟨rfl, rfl⟩ := hp8
    exact (ze_i (u' := (n, am, S4)) (z := mCost S4 t.toNat) hx hb hr rfl hI (by have := mCost_R (S := S4) (by rw [eS4]; exact hR.put (by unfold mRv; omega)) t.toNat; omega) (Or.inr ⟨by omega, by first | rfl | (rw [eS4]; rfl), by rw [eS4, show kNotCome S t = 0 by omega]⟩) (Nat.le_of_ble_eq_true rfl) (Nat.le_of_ble_eq_true rfl) dX5_charge_17 hlocks)
  · skip
    have c5 := zB_1 c5
    refine z_iconst hx hb dX5_charge_8 ?_
    refine lv_goto (tgt := 17) hx hb dX5_charge_9 (by decide) ?_
    exact (ze_i (u' := (n, am, S4)) (z := 0) hx hb hr rfl hI (by omega) (Or.inl ⟨by omega, by rw [eS4]⟩) (Nat.le_of_ble_eq_true rfl) (Nat.le_of_ble_eq_true rfl) dX5_charge_17 hlocks)
set_option maxHeartbeats 4000000 in
set_option maxRecDepth 100000 in
theorem c_X5_chargeByHours (l : Launch) (D : va_G) (cA : Nat → ClassId) (n : Nat → Nat) (am : ts_Am) (S : ts_St) (sz : Nat) (t : Int) (hW : mW n S) (ht0 : iR t) (hR : mR S) : Met l yX5_chargeByHours wsX5_chargeByHours ({ frames := 3, cells := 0, slots := 0, locals := 64 } : Room) (va_Pc [.ref (am 0 0), .int (iZ t)] (zP TM D cA (n, am, S) sz)) (zQi TM D cA (n, am, S) sz (fun z u => (¬ kNotCome S t = 0 ∧ u = (n, am, up3 S 0 0 24 (kNotCome S t))) ∨ (kNotCome S t = 0 ∧ z = mCost S t.toNat ∧ u = (n, am, m0 S 0)))) 0 0 (ts_A (n, am, S) sz) := by
  refine zM_of (by decide) rfl (Nat.le_of_ble_eq_true rfl) ?_
  intro p e s m below meth c hx hb hr hts hown hlocks hml hname hK hsz H locs hI ls hl
  subst hsz
  have hown : s.vm.findClass RX5 = some m.cls := hown
  have hl : lv_has ls 2 [(0, .ref (am 0 0)), (1, .int (iZ t))] := hl
  have hR1 := hR.1
  have hK0 := kNotCome_0 S t
  refine lv_aload_n hx hb dX5_chargeByHours_0 rfl (lv_at hl 0 rfl) ?_
  refine lv_iload_n hx hb dX5_chargeByHours_1 rfl (lv_at hl 1 rfl) ?_
  refine zc_i (zrV (As := [.int (iZ t)]) (rest := []) (κ := 0) (i := 0) ⟨hx, hb, hml, hown, hts⟩ (c_X5_hasNotCome l D cA n am S H.size t hW (by omega) hR) (cwV 1 hts gX5_chargeByHours_X5_hasNotCome rfl rfl rfl (by decide +kernel) ⟨Nat.le_of_ble_eq_true rfl, Nat.le_of_ble_eq_true rfl⟩) hK hI (hW.1 0 (by decide)) rfl rfl rfl hl.1 rfl (Nat.le_of_ble_eq_true rfl) dX5_chargeByHours_2 ⟨Nat.le_of_ble_eq_true rfl, Nat.le_of_ble_eq_true rfl⟩) hI (fun z1 u9 H locs hz2 hp3 hI hfr => ?_)
  clear hfr
  obtain ⟨rfl, rfl⟩ := hp3
  obtain ⟨S4, eS4⟩ : ∃ z, z = up3 S 0 0 24 (kNotCome S t) := ⟨_, rfl⟩
  rw [← eS4] at hI
  have hW : mW n S4 := by rw [eS4]; exact hW.put rfl
  refine z_if_eq (tgt := 12) hx hb dX5_chargeByHours_5 (by decide) (by omega) (fun c5 => ?_) (fun c5 => ?_)
  · skip
    have c5 := zB_0 c5
    have hK0 := kNotCome_0 S t
    have hin := kNotCome_in (S := S) (t := t) (by omega)
    refine lv_aload_n hx hb dX5_chargeByHours_12 rfl (lv_at hl 0 rfl) ?_
    refine lv_iload_n hx hb dX5_chargeByHours_13 rfl (lv_at hl 1 rfl) ?_
    refine zc_i (zrV (As := [.int (iZ t)]) (rest := []) (κ := 0) (i := 0) ⟨hx, hb, hml, hown, hts⟩ (c_X5_costs l D cA n am S4 H.size t hW (by omega) (by rw [eS4]; exact hR.put (by unfold mRv; omega))) (cwV 1 hts gX5_chargeByHours_X5_costs rfl rfl rfl (by decide +kernel) ⟨Nat.le_of_ble_eq_true rfl, Nat.le_of_ble_eq_true rfl⟩) hK hI (hW.1 0 (by decide)) rfl rfl rfl hl.1 rfl (Nat.le_of_ble_eq_true rfl) dX5_chargeByHours_14 ⟨Nat.le_of_ble_eq_true rfl, Nat.le_of_ble_eq_true rfl⟩) hI (fun z6 u9 H locs hz7 hp8 hI hfr => ?_)
    clear hfr
    obtain ⟨rfl, rfl⟩ := hp8
    exact (ze_i (u' := (n, am, S4)) (z := mCost S4 t.toNat) hx hb hr rfl hI (by have := mCost_R (S := S4) (by rw [eS4]; exact hR.put (by unfold mRv; omega)) t.toNat; omega) (Or.inr ⟨by omega, by first | rfl | (rw [eS4]; rfl), by rw [eS4, show kNotCome S t = 0 by omega]⟩) (Nat.le_of_ble_eq_true rfl) (Nat.le_of_ble_eq_true rfl) dX5_chargeByHours_17 hlocks)
  · skip
    have c5 := zB_1 c5
    refine z_iconst hx hb dX5_chargeByHours_8 ?_
    refine lv_goto (tgt := 17) hx hb dX5_chargeByHours_9 (by decide) ?_
    exact (ze_i (u' := (n, am, S4)) (z := 0) hx hb hr rfl hI (by omega) (Or.inl ⟨by omega, by rw [eS4]⟩) (Nat.le_of_ble_eq_true rfl) (Nat.le_of_ble_eq_true rfl) dX5_chargeByHours_17 hlocks)
set_option maxHeartbeats 4000000 in
set_option maxRecDepth 100000 in
theorem c_X5_laneOf (l : Launch) (D : va_G) (cA : Nat → ClassId) (n : Nat → Nat) (am : ts_Am) (S : ts_St) (sz : Nat) (t : Int) (hW : mW n S) (ht0 : iR t) (hR : mR S) (hys : ∀ t : Int, 0 ≤ t → t < S 0 0 8 → S 12 0 t.toNat = 121 → 0 ≤ mSlot S t) : Met l yX5_laneOf wsX5_laneOf ({ frames := 3, cells := 0, slots := 0, locals := 64 } : Room) (va_Pc [.ref (am 0 0), .int (iZ t)] (zP TM D cA (n, am, S) sz)) (zQi TM D cA (n, am, S) sz (fun z u => (¬ kElse S t = 0 ∧ u = (n, am, up3 S 0 0 24 (kElse S t))) ∨ (kElse S t = 0 ∧ z = mSlot S t / 3 ∧ u = (n, am, m0 S 0)))) 0 0 (ts_A (n, am, S) sz) := by
  refine zM_of (by decide) rfl (Nat.le_of_ble_eq_true rfl) ?_
  intro p e s m below meth c hx hb hr hts hown hlocks hml hname hK hsz H locs hI ls hl
  subst hsz
  have hown : s.vm.findClass RX5 = some m.cls := hown
  have hl : lv_has ls 2 [(0, .ref (am 0 0)), (1, .int (iZ t))] := hl
  have hR1 := hR.1
  have hK0 := kElse_0 S t
  refine lv_aload_n hx hb dX5_laneOf_0 rfl (lv_at hl 0 rfl) ?_
  refine lv_iload_n hx hb dX5_laneOf_1 rfl (lv_at hl 1 rfl) ?_
  refine zc_i (zrV (As := [.int (iZ t)]) (rest := []) (κ := 0) (i := 0) ⟨hx, hb, hml, hown, hts⟩ (c_X5_isElsewhere l D cA n am S H.size t hW (by omega) hR) (cwV 1 hts gX5_laneOf_X5_isElsewhere rfl rfl rfl (by decide +kernel) ⟨Nat.le_of_ble_eq_true rfl, Nat.le_of_ble_eq_true rfl⟩) hK hI (hW.1 0 (by decide)) rfl rfl rfl hl.1 rfl (Nat.le_of_ble_eq_true rfl) dX5_laneOf_2 ⟨Nat.le_of_ble_eq_true rfl, Nat.le_of_ble_eq_true rfl⟩) hI (fun z1 u9 H locs hz2 hp3 hI hfr => ?_)
  clear hfr
  obtain ⟨rfl, rfl⟩ := hp3
  obtain ⟨S4, eS4⟩ : ∃ z, z = up3 S 0 0 24 (kElse S t) := ⟨_, rfl⟩
  rw [← eS4] at hI
  have hW : mW n S4 := by rw [eS4]; exact hW.put rfl
  refine z_if_eq (tgt := 12) hx hb dX5_laneOf_5 (by decide) (by omega) (fun c5 => ?_) (fun c5 => ?_)
  · skip
    have c5 := zB_0 c5
    have hK0 := kElse_0 S t
    have hin := kElse_in (S := S) (t := t) (by omega)
    have hsl := hys t hin.1.1 hin.1.2 hin.2
    have hsr := mSlot_R (S := S) (t := t) hR1.1.2 hR.2.1
    refine lv_aload_n hx hb dX5_laneOf_12 rfl (lv_at hl 0 rfl) ?_
    refine lv_iload_n hx hb dX5_laneOf_13 rfl (lv_at hl 1 rfl) ?_
    refine zc_i (zrV (As := [.int (iZ t)]) (rest := []) (κ := 0) (i := 0) ⟨hx, hb, hml, hown, hts⟩ (c_X5_slotOf l D cA n am S4 H.size t hW (by omega) (by rw [show S4 0 0 0 = S 0 0 0 from (by rw [eS4, up3_n (by omega)])]; exact hR.1.1) (fun l => by rw [show S4 3 0 l = S 3 0 l from (by rw [eS4, up3_n (by omega)])]; exact hR.2.1 l)) (cwV 1 hts gX5_laneOf_X5_slotOf rfl rfl rfl (by decide +kernel) ⟨Nat.le_of_ble_eq_true rfl, Nat.le_of_ble_eq_true rfl⟩) hK hI (hW.1 0 (by decide)) rfl rfl rfl hl.1 rfl (Nat.le_of_ble_eq_true rfl) dX5_laneOf_14 ⟨Nat.le_of_ble_eq_true rfl, Nat.le_of_ble_eq_true rfl⟩) hI (fun z6 u9 H locs hz7 hp8 hI hfr => ?_)
    clear hfr
    obtain ⟨rfl, rfl⟩ := hp8
    rw [show mSlot S4 t = mSlot S t from by rw [eS4]; exact mSlot_m0 S _ t]
    refine z_iconst hx hb dX5_laneOf_17 ?_
    refine z_idiv hx hb dX5_laneOf_18 (by omega) (by omega) (by omega) (by omega) ?_
    exact (ze_i (u' := (n, am, S4)) (z := (mSlot S t / 3)) hx hb hr rfl hI (by omega) (Or.inr ⟨by omega, rfl, by rw [eS4, show kElse S t = 0 by omega]⟩) (Nat.le_of_ble_eq_true rfl) (Nat.le_of_ble_eq_true rfl) dX5_laneOf_19 hlocks)
  · skip
    have c5 := zB_1 c5
    refine z_iconst hx hb dX5_laneOf_8 ?_
    refine lv_goto (tgt := 19) hx hb dX5_laneOf_9 (by decide) ?_
    exact (ze_i (u' := (n, am, S4)) (z := 0) hx hb hr rfl hI (by omega) (Or.inl ⟨by omega, by rw [eS4]⟩) (Nat.le_of_ble_eq_true rfl) (Nat.le_of_ble_eq_true rfl) dX5_laneOf_19 hlocks)
set_option maxHeartbeats 4000000 in
set_option maxRecDepth 100000 in
theorem c_X5_blockers (l : Launch) (D : va_G) (cA : Nat → ClassId) (n : Nat → Nat) (am : ts_Am) (S : ts_St) (sz : Nat) (t : Int) (hW : mW n S) (ht0 : iR t) (hR : mR S) (hys : ∀ t : Int, 0 ≤ t → t < S 0 0 8 → S 12 0 t.toNat = 121 → 0 ≤ mSlot S t) : Met l yX5_blockers wsX5_blockers ({ frames := 3, cells := 0, slots := 0, locals := 64 } : Room) (va_Pc [.ref (am 0 0), .int (iZ t)] (zP TM D cA (n, am, S) sz)) (zQi TM D cA (n, am, S) sz (fun z u => (¬ kElse S t = 0 ∧ u = (n, am, up3 S 0 0 24 (kElse S t))) ∨ (kElse S t = 0 ∧ z = mAhead S t ∧ u = (n, am, m0 S 0)))) 0 0 (ts_A (n, am, S) sz) := by
  refine zM_of (by decide) rfl (Nat.le_of_ble_eq_true rfl) ?_
  intro p e s m below meth c hx hb hr hts hown hlocks hml hname hK hsz H locs hI ls hl
  subst hsz
  have hown : s.vm.findClass RX5 = some m.cls := hown
  have hl : lv_has ls 2 [(0, .ref (am 0 0)), (1, .int (iZ t))] := hl
  have hR1 := hR.1
  have hK0 := kElse_0 S t
  refine lv_aload_n hx hb dX5_blockers_0 rfl (lv_at hl 0 rfl) ?_
  refine lv_iload_n hx hb dX5_blockers_1 rfl (lv_at hl 1 rfl) ?_
  refine zc_i (zrV (As := [.int (iZ t)]) (rest := []) (κ := 0) (i := 0) ⟨hx, hb, hml, hown, hts⟩ (c_X5_isElsewhere l D cA n am S H.size t hW (by omega) hR) (cwV 1 hts gX5_blockers_X5_isElsewhere rfl rfl rfl (by decide +kernel) ⟨Nat.le_of_ble_eq_true rfl, Nat.le_of_ble_eq_true rfl⟩) hK hI (hW.1 0 (by decide)) rfl rfl rfl hl.1 rfl (Nat.le_of_ble_eq_true rfl) dX5_blockers_2 ⟨Nat.le_of_ble_eq_true rfl, Nat.le_of_ble_eq_true rfl⟩) hI (fun z1 u9 H locs hz2 hp3 hI hfr => ?_)
  clear hfr
  obtain ⟨rfl, rfl⟩ := hp3
  obtain ⟨S4, eS4⟩ : ∃ z, z = up3 S 0 0 24 (kElse S t) := ⟨_, rfl⟩
  rw [← eS4] at hI
  have hW : mW n S4 := by rw [eS4]; exact hW.put rfl
  refine z_if_eq (tgt := 12) hx hb dX5_blockers_5 (by decide) (by omega) (fun c5 => ?_) (fun c5 => ?_)
  · skip
    have c5 := zB_0 c5
    have hK0 := kElse_0 S t
    have hin := kElse_in (S := S) (t := t) (by omega)
    have hsl := hys t hin.1.1 hin.1.2 hin.2
    have hsr := mSlot_R (S := S) (t := t) hR1.1.2 hR.2.1
    refine lv_aload_n hx hb dX5_blockers_12 rfl (lv_at hl 0 rfl) ?_
    refine lv_iload_n hx hb dX5_blockers_13 rfl (lv_at hl 1 rfl) ?_
    refine zc_i (zrV (As := [.int (iZ t)]) (rest := []) (κ := 0) (i := 0) ⟨hx, hb, hml, hown, hts⟩ (c_X5_ahead l D cA n am S4 H.size t hW (by omega) (by rw [show S4 0 0 0 = S 0 0 0 from (by rw [eS4, up3_n (by omega)])]; exact hR.1.1) (fun l => by rw [show S4 3 0 l = S 3 0 l from (by rw [eS4, up3_n (by omega)])]; exact hR.2.1 l) (by rw [eS4, mSlot_m0]; exact hsl)) (cwV 1 hts gX5_blockers_X5_ahead rfl rfl rfl (by decide +kernel) ⟨Nat.le_of_ble_eq_true rfl, Nat.le_of_ble_eq_true rfl⟩) hK hI (hW.1 0 (by decide)) rfl rfl rfl hl.1 rfl (Nat.le_of_ble_eq_true rfl) dX5_blockers_14 ⟨Nat.le_of_ble_eq_true rfl, Nat.le_of_ble_eq_true rfl⟩) hI (fun z6 u9 H locs hz7 hp8 hI hfr => ?_)
    clear hfr
    obtain ⟨rfl, rfl⟩ := hp8
    exact (ze_i (u' := (n, am, S4)) (z := mAhead S4 t) hx hb hr rfl hI (by rw [eS4, mAhead_m0]; have := hR.2.1 (mSlot S t / 3).toNat; unfold mAhead; omega) (Or.inr ⟨by omega, by rw [eS4, mAhead_m0], by rw [eS4, show kElse S t = 0 by omega]⟩) (Nat.le_of_ble_eq_true rfl) (Nat.le_of_ble_eq_true rfl) dX5_blockers_17 hlocks)
  · skip
    have c5 := zB_1 c5
    refine z_iconst hx hb dX5_blockers_8 ?_
    refine lv_goto (tgt := 17) hx hb dX5_blockers_9 (by decide) ?_
    exact (ze_i (u' := (n, am, S4)) (z := 0) hx hb hr rfl hI (by omega) (Or.inl ⟨by omega, by rw [eS4]⟩) (Nat.le_of_ble_eq_true rfl) (Nat.le_of_ble_eq_true rfl) dX5_blockers_17 hlocks)
set_option maxHeartbeats 4000000 in
set_option maxRecDepth 100000 in
theorem c_X5_trailerAt (l : Launch) (D : va_G) (cA : Nat → ClassId) (n : Nat → Nat) (am : ts_Am) (S : ts_St) (sz : Nat) (y x : Int) (hW : mW n S) (hy0 : iR y) (hx0 : iR x) (hR : mR S) : Met l yX5_trailerAt wsX5_trailerAt ({ frames := 2, cells := 0, slots := 0, locals := 43 } : Room) (va_Pc [.ref (am 0 0), .int (iZ y), .int (iZ x)] (zP TM D cA (n, am, S) sz)) (zQi TM D cA (n, am, S) sz (fun z u => (¬ kTrailer S y x = 0 ∧ u = (n, am, up3 S 0 0 24 (kTrailer S y x))) ∨ (kTrailer S y x = 0 ∧ z = S 4 0 (3 * y + S 3 0 y.toNat - 1 - x).toNat ∧ u = (n, am, m0 S 0)))) 0 0 (ts_A (n, am, S) sz) := by
  refine zM_of (by decide) rfl (Nat.le_of_ble_eq_true rfl) ?_
  intro p e s m below meth c hx hb hr hts hown hlocks hml hname hK hsz H locs hI ls hl
  subst hsz
  have hown : s.vm.findClass RX5 = some m.cls := hown
  have hl : lv_has ls 3 [(0, .ref (am 0 0)), (1, .int (iZ y)), (2, .int (iZ x))] := hl
  have f17 := hts (.fieldLink RX5 17 "DockyardSlotsModel" "counts" "[I") (by decide +kernel)
  have f20 := hts (.fieldLink RX5 20 "DockyardSlotsModel" "slots" "[I") (by decide +kernel)
  have LX5 : ∀ w ∈ wsX50, w.before [.ref (am 0 0), .int (iZ y), .int (iZ x)].toArray s = true := fun w h => hts w (List.mem_cons_of_mem _ (List.mem_append_left _ (List.mem_append_right _ h)))
  have hR1 := hR.1
  refine lv_aload_n hx hb dX5_trailerAt_0 rfl (lv_at hl 0 rfl) ?_
  refine lv_aload_n hx hb dX5_trailerAt_1 rfl (lv_at hl 0 rfl) ?_
  refine lv_iload_n hx hb dX5_trailerAt_2 rfl (lv_at hl 1 rfl) ?_
  refine zc_i (zrV (As := [.int (iZ y)]) (rest := [.ref (am 0 0)]) (κ := 0) (i := 0) ⟨hx, hb, hml, hown, hts⟩ (c_X5_isNoLane l D cA n am S H.size y hW (by omega)) (cwV 1 hts gX5_trailerAt_X5_isNoLane rfl rfl rfl (by decide +kernel) ⟨Nat.le_of_ble_eq_true rfl, Nat.le_of_ble_eq_true rfl⟩) hK hI (hW.1 0 (by decide)) rfl rfl rfl hl.1 rfl (Nat.le_of_ble_eq_true rfl) dX5_trailerAt_3 ⟨Nat.le_of_ble_eq_true rfl, Nat.le_of_ble_eq_true rfl⟩) hI (fun z1 u9 H locs hz2 hp3 hI hfr => ?_)
  clear hfr
  obtain ⟨rfl, rfl⟩ := hp3
  refine z_if_eq (tgt := 13) hx hb dX5_trailerAt_6 (by decide) (by omega) (fun c4 => ?_) (fun c4 => ?_)
  · skip
    have c4 := zB_0 c4
    have hcy := hR.2.1 y.toNat
    refine lv_iload_n hx hb dX5_trailerAt_13 rfl (lv_at hl 2 rfl) ?_
    refine z_iconst hx hb dX5_trailerAt_14 ?_
    refine lv_aload_n hx hb dX5_trailerAt_15 rfl (lv_at hl 0 rfl) ?_
    refine zg_r (κ := 0) (i := 0) (k := 3) (t := 3) (j := 0) hx hb LX5 hown hK hI (hW.1 0 (by decide)) rfl rfl (by decide) rfl f17 (fun _ h9 => h9) dX5_trailerAt_16 (hW.rf 3 rfl) (fun v5 => ?_)
    refine lv_iload_n hx hb dX5_trailerAt_19 rfl (lv_at hl 1 rfl) ?_
    refine za_i (κ := 3) (i := 0) hx hb hK hI v5 rfl (by omega) (by omega) (by omega) dX5_trailerAt_20 rfl (fun b6 => ?_)
    refine z_iconst hx hb dX5_trailerAt_21 ?_
    refine z_isub hx hb dX5_trailerAt_22 ?_
    refine zc_i (zrS (As := [.int (iZ x), .int (iZ 0), .int (iZ (S 3 0 y.toNat - 1))]) (rest := [.ref (am 0 0)]) ⟨hx, hb, hml, hown, hts⟩ (c_X5_in l D cA n am S H.size x 0 (S 3 0 y.toNat - 1) (by omega) (by omega) (by omega)) (va_cwS 3 hts gX5_trailerAt_X5_in rfl rfl rfl (by decide +kernel) ⟨Nat.le_of_ble_eq_true rfl, Nat.le_of_ble_eq_true rfl⟩) hK hI rfl hl.1 rfl (Nat.le_of_ble_eq_true rfl) dX5_trailerAt_23 ⟨Nat.le_of_ble_eq_true rfl, Nat.le_of_ble_eq_true rfl⟩) hI (fun z7 u9 H locs hz8 hp9 hI hfr => ?_)
    clear hfr
    obtain ⟨rfl, rfl⟩ := hp9
    refine z_if_eq (tgt := 33) hx hb dX5_trailerAt_26 (by decide) (by omega) (fun c10 => ?_) (fun c10 => ?_)
    · skip
      have c10 := zB_0 c10
      refine z_iconst hx hb dX5_trailerAt_33 ?_
      refine zc_i (zrV (As := [.int (iZ 2)]) (rest := []) (κ := 0) (i := 0) ⟨hx, hb, hml, hown, hts⟩ (c_X5_fails l D cA n am S H.size 2 hW (by omega)) (cwV 1 hts gX5_trailerAt_X5_fails rfl rfl rfl (by decide +kernel) ⟨Nat.le_of_ble_eq_true rfl, Nat.le_of_ble_eq_true rfl⟩) hK hI (hW.1 0 (by decide)) rfl rfl rfl hl.1 rfl (Nat.le_of_ble_eq_true rfl) dX5_trailerAt_34 ⟨Nat.le_of_ble_eq_true rfl, Nat.le_of_ble_eq_true rfl⟩) hI (fun z11 u9 H locs hz12 hp13 hI hfr => ?_)
      clear hfr
      obtain ⟨rfl, rfl⟩ := hp13
      obtain ⟨S14, eS14⟩ : ∃ z, z = up3 S 0 0 24 2 := ⟨_, rfl⟩
      rw [← eS14] at hI
      have hW : mW n S14 := by rw [eS14]; exact hW.put rfl
      refine z_if_eq (tgt := 44) hx hb dX5_trailerAt_37 (by decide) (by omega) (fun c15 => ?_) (fun c15 => ?_)
      · skip
        have c15 := zB_0 c15
        omega
      · skip
        have c15 := zB_1 c15
        refine z_iconst hx hb dX5_trailerAt_40 ?_
        refine lv_goto (tgt := 63) hx hb dX5_trailerAt_41 (by decide) ?_
        exact (ze_i (u' := (n, am, S14)) (z := 0) hx hb hr rfl hI (by omega) (Or.inl ⟨by rw [(show kTrailer S y x = 2 by unfold kTrailer; repeat (first | rw [if_pos (by first | omega | assumption)] | rw [if_neg (by first | omega | assumption)]))]; decide, by rw [(show kTrailer S y x = 2 by unfold kTrailer; repeat (first | rw [if_pos (by first | omega | assumption)] | rw [if_neg (by first | omega | assumption)])), eS14]⟩) (Nat.le_of_ble_eq_true rfl) (Nat.le_of_ble_eq_true rfl) dX5_trailerAt_63 hlocks)
    · skip
      have c10 := zB_1 c10
      refine z_iconst hx hb dX5_trailerAt_29 ?_
      refine lv_goto (tgt := 34) hx hb dX5_trailerAt_30 (by decide) ?_
      refine zc_i (zrV (As := [.int (iZ 0)]) (rest := []) (κ := 0) (i := 0) ⟨hx, hb, hml, hown, hts⟩ (c_X5_fails l D cA n am S H.size 0 hW (by omega)) (cwV 1 hts gX5_trailerAt_X5_fails rfl rfl rfl (by decide +kernel) ⟨Nat.le_of_ble_eq_true rfl, Nat.le_of_ble_eq_true rfl⟩) hK hI (hW.1 0 (by decide)) rfl rfl rfl hl.1 rfl (Nat.le_of_ble_eq_true rfl) dX5_trailerAt_34 ⟨Nat.le_of_ble_eq_true rfl, Nat.le_of_ble_eq_true rfl⟩) hI (fun z16 u9 H locs hz17 hp18 hI hfr => ?_)
      clear hfr
      obtain ⟨rfl, rfl⟩ := hp18
      obtain ⟨S19, eS19⟩ : ∃ z, z = up3 S 0 0 24 0 := ⟨_, rfl⟩
      rw [← eS19] at hI
      have hW : mW n S19 := by rw [eS19]; exact hW.put rfl
      refine z_if_eq (tgt := 44) hx hb dX5_trailerAt_37 (by decide) (by omega) (fun c20 => ?_) (fun c20 => ?_)
      · skip
        have c20 := zB_0 c20
        refine lv_aload_n hx hb dX5_trailerAt_44 rfl (lv_at hl 0 rfl) ?_
        refine zg_r (κ := 0) (i := 0) (k := 4) (t := 4) (j := 0) hx hb LX5 hown hK hI (hW.1 0 (by decide)) rfl rfl (by decide) rfl f20 (fun _ h9 => h9) dX5_trailerAt_45 (hW.rf 4 rfl) (fun v21 => ?_)
        refine z_iconst hx hb dX5_trailerAt_48 ?_
        refine lv_iload_n hx hb dX5_trailerAt_49 rfl (lv_at hl 1 rfl) ?_
        refine z_imul hx hb dX5_trailerAt_50 ?_
        refine lv_aload_n hx hb dX5_trailerAt_51 rfl (lv_at hl 0 rfl) ?_
        refine zg_r (κ := 0) (i := 0) (k := 3) (t := 3) (j := 0) hx hb LX5 hown hK hI (hW.1 0 (by decide)) rfl rfl (by decide) rfl f17 (fun _ h9 => h9) dX5_trailerAt_52 (hW.rf 3 rfl) (fun v22 => ?_)
        refine lv_iload_n hx hb dX5_trailerAt_55 rfl (lv_at hl 1 rfl) ?_
        refine za_i (κ := 3) (i := 0) hx hb hK hI v22 rfl (by omega) (by omega) (by omega) dX5_trailerAt_56 (by rw [eS19, up3_n (by omega)]) (fun b23 => ?_)
        refine z_iadd hx hb dX5_trailerAt_57 ?_
        refine z_iconst hx hb dX5_trailerAt_58 ?_
        refine z_isub hx hb dX5_trailerAt_59 ?_
        refine lv_iload_n hx hb dX5_trailerAt_60 rfl (lv_at hl 2 rfl) ?_
        refine z_isub hx hb dX5_trailerAt_61 ?_
        refine za_i (κ := 4) (i := 0) hx hb hK hI v21 rfl (by omega) (by omega) (by omega) dX5_trailerAt_62 (by rw [eS19, up3_n (by omega)]) (fun b24 => ?_)
        exact (ze_i (u' := (n, am, S19)) (z := S 4 0 (((((3 * y) + S 3 0 y.toNat) - 1) - x).toNat)) hx hb hr rfl hI (by omega) (Or.inr ⟨(show kTrailer S y x = 0 by unfold kTrailer; repeat (first | rw [if_pos (by first | omega | assumption)] | rw [if_neg (by first | omega | assumption)])), rfl, by rw [eS19]⟩) (Nat.le_of_ble_eq_true rfl) (Nat.le_of_ble_eq_true rfl) dX5_trailerAt_63 hlocks)
      · skip
        have c20 := zB_1 c20
        omega
  · skip
    have c4 := zB_1 c4
    refine z_iconst hx hb dX5_trailerAt_9 ?_
    refine lv_goto (tgt := 34) hx hb dX5_trailerAt_10 (by decide) ?_
    refine zc_i (zrV (As := [.int (iZ 1)]) (rest := []) (κ := 0) (i := 0) ⟨hx, hb, hml, hown, hts⟩ (c_X5_fails l D cA n am S H.size 1 hW (by omega)) (cwV 1 hts gX5_trailerAt_X5_fails rfl rfl rfl (by decide +kernel) ⟨Nat.le_of_ble_eq_true rfl, Nat.le_of_ble_eq_true rfl⟩) hK hI (hW.1 0 (by decide)) rfl rfl rfl hl.1 rfl (Nat.le_of_ble_eq_true rfl) dX5_trailerAt_34 ⟨Nat.le_of_ble_eq_true rfl, Nat.le_of_ble_eq_true rfl⟩) hI (fun z25 u9 H locs hz26 hp27 hI hfr => ?_)
    clear hfr
    obtain ⟨rfl, rfl⟩ := hp27
    obtain ⟨S28, eS28⟩ : ∃ z, z = up3 S 0 0 24 1 := ⟨_, rfl⟩
    rw [← eS28] at hI
    have hW : mW n S28 := by rw [eS28]; exact hW.put rfl
    refine z_if_eq (tgt := 44) hx hb dX5_trailerAt_37 (by decide) (by omega) (fun c29 => ?_) (fun c29 => ?_)
    · skip
      have c29 := zB_0 c29
      omega
    · skip
      have c29 := zB_1 c29
      refine z_iconst hx hb dX5_trailerAt_40 ?_
      refine lv_goto (tgt := 63) hx hb dX5_trailerAt_41 (by decide) ?_
      exact (ze_i (u' := (n, am, S28)) (z := 0) hx hb hr rfl hI (by omega) (Or.inl ⟨by rw [(show kTrailer S y x = 1 by unfold kTrailer; repeat (first | rw [if_pos (by first | omega | assumption)] | rw [if_neg (by first | omega | assumption)]))]; decide, by rw [(show kTrailer S y x = 1 by unfold kTrailer; repeat (first | rw [if_pos (by first | omega | assumption)] | rw [if_neg (by first | omega | assumption)])), eS28]⟩) (Nat.le_of_ble_eq_true rfl) (Nat.le_of_ble_eq_true rfl) dX5_trailerAt_63 hlocks)
set_option maxHeartbeats 4000000 in
set_option maxRecDepth 100000 in
theorem c_X5_time (l : Launch) (D : va_G) (cA : Nat → ClassId) (n : Nat → Nat) (am : ts_Am) (S : ts_St) (sz : Nat)  (hW : mW n S) (hR : mR S) : Met l yX5_time wsX5_time ({ frames := 1, cells := 0, slots := 0, locals := 21 } : Room) (va_Pc [.ref (am 0 0)] (zP TM D cA (n, am, S) sz)) (zQi TM D cA (n, am, S) sz (fun z u => z = S 0 0 21 ∧ u = (n, am, m0 S 0))) 0 0 (ts_A (n, am, S) sz) := by
  refine zM_of (by decide) rfl (Nat.le_of_ble_eq_true rfl) ?_
  intro p e s m below meth c hx hb hr hts hown hlocks hml hname hK hsz H locs hI ls hl
  subst hsz
  have hown : s.vm.findClass RX5 = some m.cls := hown
  have hl : lv_has ls 1 [(0, .ref (am 0 0))] := hl
  have f87 := hts (.fieldLink RX5 87 "DockyardSlotsModel" "time" "I") (by decide +kernel)
  have LX5 : ∀ w ∈ wsX50, w.before [.ref (am 0 0)].toArray s = true := fun w h => hts w (List.mem_cons_of_mem _ (List.mem_append_right _ h))
  have hR1 := hR.1
  refine lv_aload_n hx hb dX5_time_0 rfl (lv_at hl 0 rfl) ?_
  refine lv_aload_n hx hb dX5_time_1 rfl (lv_at hl 0 rfl) ?_
  refine zg_i (κ := 0) (i := 0) (k := 21) hx hb LX5 hown hK hI (hW.1 0 (by decide)) rfl rfl (by decide) rfl f87 (fun _ h9 => h9) dX5_time_2 rfl (fun b1 => ?_)
  refine zc_i (zrV (As := [.int (iZ (S 0 0 21))]) (rest := []) (κ := 0) (i := 0) ⟨hx, hb, hml, hown, hts⟩ (c_X5_tells l D cA n am S H.size (S 0 0 21) hW (by omega)) (cwV 1 hts gX5_time_X5_tells rfl rfl rfl (by decide +kernel) ⟨Nat.le_of_ble_eq_true rfl, Nat.le_of_ble_eq_true rfl⟩) hK hI (hW.1 0 (by decide)) rfl rfl rfl hl.1 rfl (Nat.le_of_ble_eq_true rfl) dX5_time_5 ⟨Nat.le_of_ble_eq_true rfl, Nat.le_of_ble_eq_true rfl⟩) hI (fun z2 u9 H locs hz3 hp4 hI hfr => ?_)
  clear hfr
  obtain ⟨rfl, rfl⟩ := hp4
  obtain ⟨S5, eS5⟩ : ∃ z, z = up3 S 0 0 24 0 := ⟨_, rfl⟩
  rw [← eS5] at hI
  have hW : mW n S5 := by rw [eS5]; exact hW.put rfl
  exact (ze_i (u' := (n, am, S5)) (z := (S 0 0 21)) hx hb hr rfl hI (by omega) ⟨rfl, by rw [eS5]⟩ (Nat.le_of_ble_eq_true rfl) (Nat.le_of_ble_eq_true rfl) dX5_time_8 hlocks)
set_option maxHeartbeats 4000000 in
set_option maxRecDepth 100000 in
theorem c_X5_moves (l : Launch) (D : va_G) (cA : Nat → ClassId) (n : Nat → Nat) (am : ts_Am) (S : ts_St) (sz : Nat)  (hW : mW n S) (hR : mR S) : Met l yX5_moves wsX5_moves ({ frames := 1, cells := 0, slots := 0, locals := 21 } : Room) (va_Pc [.ref (am 0 0)] (zP TM D cA (n, am, S) sz)) (zQi TM D cA (n, am, S) sz (fun z u => z = S 0 0 22 ∧ u = (n, am, m0 S 0))) 0 0 (ts_A (n, am, S) sz) := by
  refine zM_of (by decide) rfl (Nat.le_of_ble_eq_true rfl) ?_
  intro p e s m below meth c hx hb hr hts hown hlocks hml hname hK hsz H locs hI ls hl
  subst hsz
  have hown : s.vm.findClass RX5 = some m.cls := hown
  have hl : lv_has ls 1 [(0, .ref (am 0 0))] := hl
  have f125 := hts (.fieldLink RX5 125 "DockyardSlotsModel" "moves" "I") (by decide +kernel)
  have LX5 : ∀ w ∈ wsX50, w.before [.ref (am 0 0)].toArray s = true := fun w h => hts w (List.mem_cons_of_mem _ (List.mem_append_right _ h))
  have hR1 := hR.1
  refine lv_aload_n hx hb dX5_moves_0 rfl (lv_at hl 0 rfl) ?_
  refine lv_aload_n hx hb dX5_moves_1 rfl (lv_at hl 0 rfl) ?_
  refine zg_i (κ := 0) (i := 0) (k := 22) hx hb LX5 hown hK hI (hW.1 0 (by decide)) rfl rfl (by decide) rfl f125 (fun _ h9 => h9) dX5_moves_2 rfl (fun b1 => ?_)
  refine zc_i (zrV (As := [.int (iZ (S 0 0 22))]) (rest := []) (κ := 0) (i := 0) ⟨hx, hb, hml, hown, hts⟩ (c_X5_tells l D cA n am S H.size (S 0 0 22) hW (by omega)) (cwV 1 hts gX5_moves_X5_tells rfl rfl rfl (by decide +kernel) ⟨Nat.le_of_ble_eq_true rfl, Nat.le_of_ble_eq_true rfl⟩) hK hI (hW.1 0 (by decide)) rfl rfl rfl hl.1 rfl (Nat.le_of_ble_eq_true rfl) dX5_moves_5 ⟨Nat.le_of_ble_eq_true rfl, Nat.le_of_ble_eq_true rfl⟩) hI (fun z2 u9 H locs hz3 hp4 hI hfr => ?_)
  clear hfr
  obtain ⟨rfl, rfl⟩ := hp4
  obtain ⟨S5, eS5⟩ : ∃ z, z = up3 S 0 0 24 0 := ⟨_, rfl⟩
  rw [← eS5] at hI
  have hW : mW n S5 := by rw [eS5]; exact hW.put rfl
  exact (ze_i (u' := (n, am, S5)) (z := (S 0 0 22)) hx hb hr rfl hI (by omega) ⟨rfl, by rw [eS5]⟩ (Nat.le_of_ble_eq_true rfl) (Nat.le_of_ble_eq_true rfl) dX5_moves_8 hlocks)
set_option maxHeartbeats 4000000 in
set_option maxRecDepth 100000 in
theorem c_X5_charged (l : Launch) (D : va_G) (cA : Nat → ClassId) (n : Nat → Nat) (am : ts_Am) (S : ts_St) (sz : Nat)  (hW : mW n S) (hR : mR S) : Met l yX5_charged wsX5_charged ({ frames := 0, cells := 0, slots := 0, locals := 0 } : Room) (va_Pc [.ref (am 0 0)] (zP TM D cA (n, am, S) sz)) (zQl TM D cA (n, am, S) sz (fun z u => z = S 0 0 23 ∧ u = (n, am, m0 S 0))) 0 0 (ts_A (n, am, S) sz) := by
  refine zM_of (by decide) rfl (Nat.le_of_ble_eq_true rfl) ?_
  intro p e s m below meth c hx hb hr hts hown hlocks hml hname hK hsz H locs hI ls hl
  subst hsz
  have hown : s.vm.findClass RX5 = some m.cls := hown
  have hl : lv_has ls 1 [(0, .ref (am 0 0))] := hl
  have f134 := hts (.fieldLink RX5 134 "DockyardSlotsModel" "charged" "J") (by decide +kernel)
  have f67 := hts (.fieldLink RX5 67 "DockyardSlotsModel" "code" "I") (by decide +kernel)
  have LX5 : ∀ w ∈ wsX50, w.before [.ref (am 0 0)].toArray s = true := fun w h => hts w (List.mem_cons_of_mem _ (List.mem_append_right _ h))
  have hR1 := hR.1
  refine lv_aload_n hx hb dX5_charged_0 rfl (lv_at hl 0 rfl) ?_
  refine z_iconst hx hb dX5_charged_1 ?_
  refine zp_i (κ := 0) (i := 0) (k := 24) hx hb LX5 tyX5 tyX5_ok nmX5 hown hK hI (hW.1 0 (by decide)) rfl rfl (by decide) rfl f67 (fun _ h9 => h9) rfl rfl rfl (by omega) dX5_charged_2 (fun H locs hI => ?_)
  obtain ⟨S1, eS1⟩ : ∃ z, z = up3 S 0 0 24 0 := ⟨_, rfl⟩
  rw [← eS1] at hI
  have hW : mW n S1 := by rw [eS1]; exact hW.put rfl
  refine lv_aload_n hx hb dX5_charged_5 rfl (lv_at hl 0 rfl) ?_
  refine zg_l (κ := 0) (i := 0) (k := 23) hx hb LX5 hown hK hI (hW.1 0 (by decide)) rfl rfl (by decide) rfl f134 (fun _ h9 => h9) dX5_charged_6 (by rw [eS1, up3_n (by omega)]) ?_
  exact (ze_l (u' := (n, am, S1)) (z := S 0 0 23) hx hb hr hI ⟨rfl, by rw [eS1]⟩ (Nat.le_of_ble_eq_true rfl) (Nat.le_of_ble_eq_true rfl) dX5_charged_9 hlocks)
set_option maxHeartbeats 4000000 in
set_option maxRecDepth 100000 in
theorem c_X5_nextBooked (l : Launch) (D : va_G) (cA : Nat → ClassId) (n : Nat → Nat) (am : ts_Am) (S : ts_St) (sz : Nat)  (hW : mW n S) (hR : mR S) : Met l yX5_nextBooked wsX5_nextBooked ({ frames := 1, cells := 0, slots := 0, locals := 21 } : Room) (va_Pc [.ref (am 0 0)] (zP TM D cA (n, am, S) sz)) (zQi TM D cA (n, am, S) sz (fun z u => (¬ kNext S = 0 ∧ u = (n, am, up3 S 0 0 24 (kNext S))) ∨ (kNext S = 0 ∧ z = mNext S (S 0 0 8).toNat ∧ u = (n, am, m0 S 0)))) 0 0 (ts_A (n, am, S) sz) := by
  refine zM_of (by decide) rfl (Nat.le_of_ble_eq_true rfl) ?_
  intro p e s m below meth c hx hb hr hts hown hlocks hml hname hK hsz H locs hI ls hl
  subst hsz
  have hown : s.vm.findClass RX5 = some m.cls := hown
  have hl : lv_has ls 3 [(0, .ref (am 0 0))] := hl
  have f30 := hts (.fieldLink RX5 30 "DockyardSlotsModel" "hours" "[I") (by decide +kernel)
  have f39 := hts (.fieldLink RX5 39 "DockyardSlotsModel" "states" "[C") (by decide +kernel)
  have f77 := hts (.fieldLink RX5 77 "DockyardSlotsModel" "booked" "I") (by decide +kernel)
  have LX5 : ∀ w ∈ wsX50, w.before [.ref (am 0 0)].toArray s = true := fun w h => hts w (List.mem_cons_of_mem _ (List.mem_append_left _ (List.mem_append_right _ h)))
  have hR1 := hR.1
  refine z_iconst hx hb dX5_nextBooked_0 ?_
  refine lv_istore_n (lv' := [(1, .int (iZ (-1))), (0, .ref (am 0 0))]) hx hb dX5_nextBooked_1 rfl hl (by decide) rfl (fun ls hl => ?_)
  refine z_iconst hx hb dX5_nextBooked_2 ?_
  refine lv_istore_n (lv' := [(2, .int (iZ 0)), (1, .int (iZ (-1))), (0, .ref (am 0 0))]) hx hb dX5_nextBooked_3 rfl hl (by decide) rfl (fun ls hl => ?_)
  obtain ⟨x, e_x⟩ : ∃ z : Int, z = (-1) := ⟨_, rfl⟩
  obtain ⟨y, e_y⟩ : ∃ z : Int, z = 0 := ⟨_, rfl⟩
  replace hl : lv_has ls 3 [(2, .int (iZ y)), (1, .int (iZ x)), (0, .ref (am 0 0))] := by rw [e_x, e_y]; exact hl
  have h1 : 0 ≤ y ∧ y ≤ S 0 0 8 := by omega
  have h2 : x = mNext S y.toNat := by rw [e_x, e_y]; rfl
  have h3 : -1 ≤ x ∧ x < y := by omega
  obtain ⟨k4, hk4⟩ : ∃ k : Nat, S 0 0 8 - y < (k : Int) := ⟨(S 0 0 8 - y).toNat + 1, by omega⟩
  clear e_x e_y
  induction k4 generalizing x y H locs ls with
  | zero => omega
  | succ k4 ih4 =>
    refine lv_iload_n hx hb dX5_nextBooked_4 rfl (lv_at hl 0 rfl) ?_
    refine lv_aload_n hx hb dX5_nextBooked_5 rfl (lv_at hl 2 rfl) ?_
    refine zg_i (κ := 0) (i := 0) (k := 8) hx hb LX5 hown hK hI (hW.1 0 (by decide)) rfl rfl (by decide) rfl f77 (fun _ h9 => h9) dX5_nextBooked_6 rfl (fun b1 => ?_)
    refine z_icmp_ge (tgt := 50) hx hb dX5_nextBooked_9 (by decide) (by omega) (by omega) (fun c2 => ?_) (fun c2 => ?_)
    · skip
      have h2 : x = mNext S (S 0 0 8).toNat := by rw [h2, show y = S 0 0 8 by omega]
      refine lv_aload_n hx hb dX5_nextBooked_50 rfl (lv_at hl 2 rfl) ?_
      refine lv_iload_n hx hb dX5_nextBooked_51 rfl (lv_at hl 1 rfl) ?_
      refine z_if_ge (tgt := 59) hx hb dX5_nextBooked_52 (by decide) (by omega) (fun c3 => ?_) (fun c3 => ?_)
      · skip
        refine z_iconst hx hb dX5_nextBooked_59 ?_
        refine zc_i (zrV (As := [.int (iZ 0)]) (rest := []) (κ := 0) (i := 0) ⟨hx, hb, hml, hown, hts⟩ (c_X5_fails l D cA n am S H.size 0 hW (by omega)) (cwV 1 hts gX5_nextBooked_X5_fails rfl rfl rfl (by decide +kernel) ⟨Nat.le_of_ble_eq_true rfl, Nat.le_of_ble_eq_true rfl⟩) hK hI (hW.1 0 (by decide)) rfl rfl rfl hl.1 rfl (Nat.le_of_ble_eq_true rfl) dX5_nextBooked_60 ⟨Nat.le_of_ble_eq_true rfl, Nat.le_of_ble_eq_true rfl⟩) hI (fun z4 u9 H locs hz5 hp6 hI hfr => ?_)
        clear hfr
        obtain ⟨rfl, rfl⟩ := hp6
        obtain ⟨S7, eS7⟩ : ∃ z, z = up3 S 0 0 24 0 := ⟨_, rfl⟩
        rw [← eS7] at hI
        have hW : mW n S7 := by rw [eS7]; exact hW.put rfl
        refine z_if_eq (tgt := 70) hx hb dX5_nextBooked_63 (by decide) (by omega) (fun c8 => ?_) (fun c8 => ?_)
        · skip
          have c8 := zB_0 c8
          refine lv_iload_n hx hb dX5_nextBooked_70 rfl (lv_at hl 1 rfl) ?_
          exact (ze_i (u' := (n, am, S7)) (z := x) hx hb hr rfl hI (by omega) (Or.inr ⟨(show kNext S = 0 by unfold kNext; repeat (first | rw [if_pos (by first | omega | assumption)] | rw [if_neg (by first | omega | assumption)])), h2, by rw [eS7]⟩) (Nat.le_of_ble_eq_true rfl) (Nat.le_of_ble_eq_true rfl) dX5_nextBooked_71 hlocks)
        · skip
          have c8 := zB_1 c8
          omega
      · skip
        refine z_iconst hx hb dX5_nextBooked_55 ?_
        refine lv_goto (tgt := 60) hx hb dX5_nextBooked_56 (by decide) ?_
        refine zc_i (zrV (As := [.int (iZ 1)]) (rest := []) (κ := 0) (i := 0) ⟨hx, hb, hml, hown, hts⟩ (c_X5_fails l D cA n am S H.size 1 hW (by omega)) (cwV 1 hts gX5_nextBooked_X5_fails rfl rfl rfl (by decide +kernel) ⟨Nat.le_of_ble_eq_true rfl, Nat.le_of_ble_eq_true rfl⟩) hK hI (hW.1 0 (by decide)) rfl rfl rfl hl.1 rfl (Nat.le_of_ble_eq_true rfl) dX5_nextBooked_60 ⟨Nat.le_of_ble_eq_true rfl, Nat.le_of_ble_eq_true rfl⟩) hI (fun z9 u9 H locs hz10 hp11 hI hfr => ?_)
        clear hfr
        obtain ⟨rfl, rfl⟩ := hp11
        obtain ⟨S12, eS12⟩ : ∃ z, z = up3 S 0 0 24 1 := ⟨_, rfl⟩
        rw [← eS12] at hI
        have hW : mW n S12 := by rw [eS12]; exact hW.put rfl
        refine z_if_eq (tgt := 70) hx hb dX5_nextBooked_63 (by decide) (by omega) (fun c13 => ?_) (fun c13 => ?_)
        · skip
          have c13 := zB_0 c13
          omega
        · skip
          have c13 := zB_1 c13
          refine z_iconst hx hb dX5_nextBooked_66 ?_
          refine lv_goto (tgt := 71) hx hb dX5_nextBooked_67 (by decide) ?_
          exact (ze_i (u' := (n, am, S12)) (z := 0) hx hb hr rfl hI (by omega) (Or.inl ⟨by rw [(show kNext S = 1 by unfold kNext; repeat (first | rw [if_pos (by first | omega | assumption)] | rw [if_neg (by first | omega | assumption)]))]; decide, by rw [(show kNext S = 1 by unfold kNext; repeat (first | rw [if_pos (by first | omega | assumption)] | rw [if_neg (by first | omega | assumption)])), eS12]⟩) (Nat.le_of_ble_eq_true rfl) (Nat.le_of_ble_eq_true rfl) dX5_nextBooked_71 hlocks)
    · skip
      refine lv_aload_n hx hb dX5_nextBooked_12 rfl (lv_at hl 2 rfl) ?_
      refine zg_r (κ := 0) (i := 0) (k := 12) (t := 12) (j := 0) hx hb LX5 hown hK hI (hW.1 0 (by decide)) rfl rfl (by decide) rfl f39 (fun _ h9 => h9) dX5_nextBooked_13 (hW.rf 12 rfl) (fun v14 => ?_)
      refine lv_iload_n hx hb dX5_nextBooked_16 rfl (lv_at hl 0 rfl) ?_
      refine za_c (κ := 12) (i := 0) hx hb hK hI v14 rfl (by omega) (by omega) (by omega) dX5_nextBooked_17 rfl (fun b15 => ?_)
      refine z_bipush hx hb dX5_nextBooked_18 (by decide) ?_
      refine z_icmp_ne (tgt := 44) hx hb dX5_nextBooked_20 (by decide) (by omega) (by omega) (fun c16 => ?_) (fun c16 => ?_)
      · skip
        refine z_iinc (k := 0) (lv' := [(2, .int (iZ (y + 1))), (1, .int (iZ x)), (0, .ref (am 0 0))]) hx hb dX5_nextBooked_44 hl rfl (by decide) rfl (fun ls hl => ?_)
        refine lv_goto (tgt := 4) hx hb dX5_nextBooked_47 (by decide) ?_
        exact ih4 (x := x) (y := (y + 1)) (h1 := by omega) (h2 := by rw [mNext_s (by omega), ← h2]; (first | rw [if_pos (by omega)] | rw [if_neg (by omega)])) (h3 := by omega) (hk4 := by omega) (hI := hI) (hl := lv_sub hl [0, 1, 2] rfl)
      · skip
        refine lv_iload_n hx hb dX5_nextBooked_23 rfl (lv_at hl 1 rfl) ?_
        refine z_if_lt (tgt := 42) hx hb dX5_nextBooked_24 (by decide) (by omega) (fun c17 => ?_) (fun c17 => ?_)
        · skip
          refine lv_iload_n hx hb dX5_nextBooked_42 rfl (lv_at hl 0 rfl) ?_
          refine lv_istore_n (lv' := [(1, .int (iZ y)), (2, .int (iZ y)), (0, .ref (am 0 0))]) hx hb dX5_nextBooked_43 rfl hl (by decide) rfl (fun ls hl => ?_)
          refine z_iinc (k := 1) (lv' := [(2, .int (iZ (y + 1))), (1, .int (iZ y)), (0, .ref (am 0 0))]) hx hb dX5_nextBooked_44 hl rfl (by decide) rfl (fun ls hl => ?_)
          refine lv_goto (tgt := 4) hx hb dX5_nextBooked_47 (by decide) ?_
          exact ih4 (x := y) (y := (y + 1)) (h1 := by omega) (h2 := by rw [mNext_s (by omega), ← h2]; (first | rw [if_pos (by omega)] | rw [if_neg (by omega)])) (h3 := by omega) (hk4 := by omega) (hI := hI) (hl := lv_sub hl [0, 1, 2] rfl)
        · skip
          refine lv_aload_n hx hb dX5_nextBooked_27 rfl (lv_at hl 2 rfl) ?_
          refine zg_r (κ := 0) (i := 0) (k := 9) (t := 9) (j := 0) hx hb LX5 hown hK hI (hW.1 0 (by decide)) rfl rfl (by decide) rfl f30 (fun _ h9 => h9) dX5_nextBooked_28 (hW.rf 9 rfl) (fun v18 => ?_)
          refine lv_iload_n hx hb dX5_nextBooked_31 rfl (lv_at hl 0 rfl) ?_
          refine za_i (κ := 9) (i := 0) hx hb hK hI v18 rfl (by omega) (by omega) (by omega) dX5_nextBooked_32 rfl (fun b19 => ?_)
          refine lv_aload_n hx hb dX5_nextBooked_33 rfl (lv_at hl 2 rfl) ?_
          refine zg_r (κ := 0) (i := 0) (k := 9) (t := 9) (j := 0) hx hb LX5 hown hK hI (hW.1 0 (by decide)) rfl rfl (by decide) rfl f30 (fun _ h9 => h9) dX5_nextBooked_34 (hW.rf 9 rfl) (fun v20 => ?_)
          refine lv_iload_n hx hb dX5_nextBooked_37 rfl (lv_at hl 1 rfl) ?_
          refine za_i (κ := 9) (i := 0) hx hb hK hI v20 rfl (by omega) (by omega) (by omega) dX5_nextBooked_38 rfl (fun b21 => ?_)
          refine z_icmp_ge (tgt := 44) hx hb dX5_nextBooked_39 (by decide) (by omega) (by omega) (fun c22 => ?_) (fun c22 => ?_)
          · skip
            refine z_iinc (k := 0) (lv' := [(2, .int (iZ (y + 1))), (1, .int (iZ x)), (0, .ref (am 0 0))]) hx hb dX5_nextBooked_44 hl rfl (by decide) rfl (fun ls hl => ?_)
            refine lv_goto (tgt := 4) hx hb dX5_nextBooked_47 (by decide) ?_
            exact ih4 (x := x) (y := (y + 1)) (h1 := by omega) (h2 := by rw [mNext_s (by omega), ← h2]; (first | rw [if_pos (by omega)] | rw [if_neg (by omega)])) (h3 := by omega) (hk4 := by omega) (hI := hI) (hl := lv_sub hl [0, 1, 2] rfl)
          · skip
            refine lv_iload_n hx hb dX5_nextBooked_42 rfl (lv_at hl 0 rfl) ?_
            refine lv_istore_n (lv' := [(1, .int (iZ y)), (2, .int (iZ y)), (0, .ref (am 0 0))]) hx hb dX5_nextBooked_43 rfl hl (by decide) rfl (fun ls hl => ?_)
            refine z_iinc (k := 1) (lv' := [(2, .int (iZ (y + 1))), (1, .int (iZ y)), (0, .ref (am 0 0))]) hx hb dX5_nextBooked_44 hl rfl (by decide) rfl (fun ls hl => ?_)
            refine lv_goto (tgt := 4) hx hb dX5_nextBooked_47 (by decide) ?_
            exact ih4 (x := y) (y := (y + 1)) (h1 := by omega) (h2 := by rw [mNext_s (by omega), ← h2]; (first | rw [if_pos (by omega)] | rw [if_neg (by omega)])) (h3 := by omega) (hk4 := by omega) (hI := hI) (hl := lv_sub hl [0, 1, 2] rfl)
set_option maxHeartbeats 4000000 in
set_option maxRecDepth 100000 in
theorem c_X5_shift (l : Launch) (D : va_G) (cA : Nat → ClassId) (n : Nat → Nat) (am : ts_Am) (S : ts_St) (sz : Nat) (t y : Int) (hW : mW n S) (ht0 : iR t) (hy0 : iR y) (hR : mR S) : Met l yX5_shift wsX5_shift ({ frames := 3, cells := 0, slots := 0, locals := 66 } : Room) (va_Pc [.ref (am 0 0), .int (iZ t), .int (iZ y)] (zP TM D cA (n, am, S) sz)) (zQi TM D cA (n, am, S) sz (fun z u => (¬ kShift S t y = 0 ∧ u = (n, am, up3 S 0 0 24 (kShift S t y))) ∨ (kShift S t y = 0 ∧ z = S 0 0 22 + 1 ∧ u = (n, am, gShift S t y)))) 0 0 (ts_A (n, am, S) sz) := by
  refine zM_of (by decide) rfl (Nat.le_of_ble_eq_true rfl) ?_
  intro p e s m below meth c hx hb hr hts hown hlocks hml hname hK hsz H locs hI ls hl
  subst hsz
  have hown : s.vm.findClass RX5 = some m.cls := hown
  have hl : lv_has ls 3 [(0, .ref (am 0 0)), (1, .int (iZ t)), (2, .int (iZ y))] := hl
  have f125 := hts (.fieldLink RX5 125 "DockyardSlotsModel" "moves" "I") (by decide +kernel)
  have f17 := hts (.fieldLink RX5 17 "DockyardSlotsModel" "counts" "[I") (by decide +kernel)
  have LX5 : ∀ w ∈ wsX50, w.before [.ref (am 0 0), .int (iZ t), .int (iZ y)].toArray s = true := fun w h => hts w (List.mem_cons_of_mem _ (List.mem_append_left _ (List.mem_append_right _ h)))
  have hR1 := hR.1
  have hsr := mSlot_R (S := S) (t := t) hR1.1.2 hR.2.1
  refine lv_aload_n hx hb dX5_shift_0 rfl (lv_at hl 0 rfl) ?_
  refine lv_aload_n hx hb dX5_shift_1 rfl (lv_at hl 0 rfl) ?_
  refine lv_iload_n hx hb dX5_shift_2 rfl (lv_at hl 1 rfl) ?_
  refine zc_i (zrV (As := [.int (iZ t)]) (rest := [.ref (am 0 0)]) (κ := 0) (i := 0) ⟨hx, hb, hml, hown, hts⟩ (c_X5_isNone l D cA n am S H.size t hW (by omega)) (cwV 1 hts gX5_shift_X5_isNone rfl rfl rfl (by decide +kernel) ⟨Nat.le_of_ble_eq_true rfl, Nat.le_of_ble_eq_true rfl⟩) hK hI (hW.1 0 (by decide)) rfl rfl rfl hl.1 rfl (Nat.le_of_ble_eq_true rfl) dX5_shift_3 ⟨Nat.le_of_ble_eq_true rfl, Nat.le_of_ble_eq_true rfl⟩) hI (fun z1 u9 H locs hz2 hp3 hI hfr => ?_)
  clear hfr
  obtain ⟨rfl, rfl⟩ := hp3
  refine z_if_eq (tgt := 13) hx hb dX5_shift_6 (by decide) (by omega) (fun c4 => ?_) (fun c4 => ?_)
  · skip
    have c4 := zB_0 c4
    refine lv_aload_n hx hb dX5_shift_13 rfl (lv_at hl 0 rfl) ?_
    refine lv_iload_n hx hb dX5_shift_14 rfl (lv_at hl 2 rfl) ?_
    refine zc_i (zrV (As := [.int (iZ y)]) (rest := [.ref (am 0 0)]) (κ := 0) (i := 0) ⟨hx, hb, hml, hown, hts⟩ (c_X5_isNoLane l D cA n am S H.size y hW (by omega)) (cwV 1 hts gX5_shift_X5_isNoLane rfl rfl rfl (by decide +kernel) ⟨Nat.le_of_ble_eq_true rfl, Nat.le_of_ble_eq_true rfl⟩) hK hI (hW.1 0 (by decide)) rfl rfl rfl hl.1 rfl (Nat.le_of_ble_eq_true rfl) dX5_shift_15 ⟨Nat.le_of_ble_eq_true rfl, Nat.le_of_ble_eq_true rfl⟩) hI (fun z5 u9 H locs hz6 hp7 hI hfr => ?_)
    clear hfr
    obtain ⟨rfl, rfl⟩ := hp7
    refine z_if_eq (tgt := 25) hx hb dX5_shift_18 (by decide) (by omega) (fun c8 => ?_) (fun c8 => ?_)
    · skip
      have c8 := zB_0 c8
      refine lv_aload_n hx hb dX5_shift_25 rfl (lv_at hl 0 rfl) ?_
      refine lv_iload_n hx hb dX5_shift_26 rfl (lv_at hl 1 rfl) ?_
      refine zc_i (zrV (As := [.int (iZ t)]) (rest := [.ref (am 0 0)]) (κ := 0) (i := 0) ⟨hx, hb, hml, hown, hts⟩ (c_X5_isReached l D cA n am S H.size t hW (by omega) hR.1.1 hR.2.1) (cwV 1 hts gX5_shift_X5_isReached rfl rfl rfl (by decide +kernel) ⟨Nat.le_of_ble_eq_true rfl, Nat.le_of_ble_eq_true rfl⟩) hK hI (hW.1 0 (by decide)) rfl rfl rfl hl.1 rfl (Nat.le_of_ble_eq_true rfl) dX5_shift_27 ⟨Nat.le_of_ble_eq_true rfl, Nat.le_of_ble_eq_true rfl⟩) hI (fun z9 u9 H locs hz10 hp11 hI hfr => ?_)
      clear hfr
      obtain ⟨rfl, rfl⟩ := hp11
      refine z_if_ne (tgt := 37) hx hb dX5_shift_30 (by decide) (by omega) (fun c12 => ?_) (fun c12 => ?_)
      · skip
        have c12 := zB_1 c12
        refine lv_aload_n hx hb dX5_shift_37 rfl (lv_at hl 0 rfl) ?_
        refine lv_iload_n hx hb dX5_shift_38 rfl (lv_at hl 1 rfl) ?_
        refine zc_i (zrV (As := [.int (iZ t)]) (rest := [.ref (am 0 0)]) (κ := 0) (i := 0) ⟨hx, hb, hml, hown, hts⟩ (c_X5_slotOf l D cA n am S H.size t hW (by omega) hR.1.1 hR.2.1) (cwV 1 hts gX5_shift_X5_slotOf rfl rfl rfl (by decide +kernel) ⟨Nat.le_of_ble_eq_true rfl, Nat.le_of_ble_eq_true rfl⟩) hK hI (hW.1 0 (by decide)) rfl rfl rfl hl.1 rfl (Nat.le_of_ble_eq_true rfl) dX5_shift_39 ⟨Nat.le_of_ble_eq_true rfl, Nat.le_of_ble_eq_true rfl⟩) hI (fun z13 u9 H locs hz14 hp15 hI hfr => ?_)
        clear hfr
        obtain ⟨rfl, rfl⟩ := hp15
        refine z_iconst hx hb dX5_shift_42 ?_
        refine z_idiv hx hb dX5_shift_43 (by omega) (by omega) (by omega) (by omega) ?_
        refine lv_iload_n hx hb dX5_shift_44 rfl (lv_at hl 2 rfl) ?_
        refine z_icmp_eq (tgt := 57) hx hb dX5_shift_45 (by decide) (by omega) (by omega) (fun c16 => ?_) (fun c16 => ?_)
        · skip
          refine z_iconst hx hb dX5_shift_57 ?_
          refine lv_goto (tgt := 62) hx hb dX5_shift_58 (by decide) ?_
          refine zc_i (zrV (As := [.int (iZ 4)]) (rest := []) (κ := 0) (i := 0) ⟨hx, hb, hml, hown, hts⟩ (c_X5_fails l D cA n am S H.size 4 hW (by omega)) (cwV 1 hts gX5_shift_X5_fails rfl rfl rfl (by decide +kernel) ⟨Nat.le_of_ble_eq_true rfl, Nat.le_of_ble_eq_true rfl⟩) hK hI (hW.1 0 (by decide)) rfl rfl rfl hl.1 rfl (Nat.le_of_ble_eq_true rfl) dX5_shift_62 ⟨Nat.le_of_ble_eq_true rfl, Nat.le_of_ble_eq_true rfl⟩) hI (fun z17 u9 H locs hz18 hp19 hI hfr => ?_)
          clear hfr
          obtain ⟨rfl, rfl⟩ := hp19
          obtain ⟨S20, eS20⟩ : ∃ z, z = up3 S 0 0 24 4 := ⟨_, rfl⟩
          rw [← eS20] at hI
          have hW : mW n S20 := by rw [eS20]; exact hW.put rfl
          refine z_if_eq (tgt := 70) hx hb dX5_shift_65 (by decide) (by omega) (fun c21 => ?_) (fun c21 => ?_)
          · skip
            have c21 := zB_0 c21
            omega
          · skip
            have c21 := zB_1 c21
            refine z_iconst hx hb dX5_shift_68 ?_
            exact (ze_i (u' := (n, am, S20)) (z := 0) hx hb hr rfl hI (by omega) (Or.inl ⟨by rw [(show kShift S t y = 4 by unfold kShift; repeat (first | rw [if_pos (by first | omega | assumption)] | rw [if_neg (by first | omega | assumption)]))]; decide, by rw [(show kShift S t y = 4 by unfold kShift; repeat (first | rw [if_pos (by first | omega | assumption)] | rw [if_neg (by first | omega | assumption)])), eS20]⟩) (Nat.le_of_ble_eq_true rfl) (Nat.le_of_ble_eq_true rfl) dX5_shift_69 hlocks)
        · skip
          refine lv_aload_n hx hb dX5_shift_48 rfl (lv_at hl 0 rfl) ?_
          refine lv_iload_n hx hb dX5_shift_49 rfl (lv_at hl 1 rfl) ?_
          refine lv_iload_n hx hb dX5_shift_50 rfl (lv_at hl 2 rfl) ?_
          refine zc_i (zrV (As := [.int (iZ t), .int (iZ y)]) (rest := [.ref (am 0 0)]) (κ := 0) (i := 0) ⟨hx, hb, hml, hown, hts⟩ (c_X5_canCome l D cA n am S H.size t y hW (by omega) (by omega)) (cwV 2 hts gX5_shift_X5_canCome rfl rfl rfl (by decide +kernel) ⟨Nat.le_of_ble_eq_true rfl, Nat.le_of_ble_eq_true rfl⟩) hK hI (hW.1 0 (by decide)) rfl rfl rfl hl.1 rfl (Nat.le_of_ble_eq_true rfl) dX5_shift_51 ⟨Nat.le_of_ble_eq_true rfl, Nat.le_of_ble_eq_true rfl⟩) hI (fun z22 u9 H locs hz23 hp24 hI hfr => ?_)
          clear hfr
          obtain ⟨rfl, rfl⟩ := hp24
          refine z_if_ne (tgt := 61) hx hb dX5_shift_54 (by decide) (by omega) (fun c25 => ?_) (fun c25 => ?_)
          · skip
            have c25 := zB_1 c25
            refine z_iconst hx hb dX5_shift_61 ?_
            refine zc_i (zrV (As := [.int (iZ 0)]) (rest := []) (κ := 0) (i := 0) ⟨hx, hb, hml, hown, hts⟩ (c_X5_fails l D cA n am S H.size 0 hW (by omega)) (cwV 1 hts gX5_shift_X5_fails rfl rfl rfl (by decide +kernel) ⟨Nat.le_of_ble_eq_true rfl, Nat.le_of_ble_eq_true rfl⟩) hK hI (hW.1 0 (by decide)) rfl rfl rfl hl.1 rfl (Nat.le_of_ble_eq_true rfl) dX5_shift_62 ⟨Nat.le_of_ble_eq_true rfl, Nat.le_of_ble_eq_true rfl⟩) hI (fun z26 u9 H locs hz27 hp28 hI hfr => ?_)
            clear hfr
            obtain ⟨rfl, rfl⟩ := hp28
            obtain ⟨S29, eS29⟩ : ∃ z, z = up3 S 0 0 24 0 := ⟨_, rfl⟩
            rw [← eS29] at hI
            have hW : mW n S29 := by rw [eS29]; exact hW.put rfl
            refine z_if_eq (tgt := 70) hx hb dX5_shift_65 (by decide) (by omega) (fun c30 => ?_) (fun c30 => ?_)
            · skip
              have c30 := zB_0 c30
              refine lv_aload_n hx hb dX5_shift_70 rfl (lv_at hl 0 rfl) ?_
              refine zg_r (κ := 0) (i := 0) (k := 3) (t := 3) (j := 0) hx hb LX5 hown hK hI (hW.1 0 (by decide)) rfl rfl (by decide) rfl f17 (fun _ h9 => h9) dX5_shift_71 (hW.rf 3 rfl) (fun v31 => ?_)
              refine lv_aload_n hx hb dX5_shift_74 rfl (lv_at hl 0 rfl) ?_
              refine lv_iload_n hx hb dX5_shift_75 rfl (lv_at hl 1 rfl) ?_
              refine zc_i (zrV (As := [.int (iZ t)]) (rest := [.ref (am 3 0)]) (κ := 0) (i := 0) ⟨hx, hb, hml, hown, hts⟩ (c_X5_slotOf l D cA n am S29 H.size t hW (by omega) (by rw [show S29 0 0 0 = S 0 0 0 from (by rw [eS29, up3_n (by omega)])]; exact hR.1.1) (fun l => by rw [show S29 3 0 l = S 3 0 l from (by rw [eS29, up3_n (by omega)])]; exact hR.2.1 l)) (cwV 1 hts gX5_shift_X5_slotOf rfl rfl rfl (by decide +kernel) ⟨Nat.le_of_ble_eq_true rfl, Nat.le_of_ble_eq_true rfl⟩) hK hI (hW.1 0 (by decide)) rfl rfl rfl hl.1 rfl (Nat.le_of_ble_eq_true rfl) dX5_shift_76 ⟨Nat.le_of_ble_eq_true rfl, Nat.le_of_ble_eq_true rfl⟩) hI (fun z32 u9 H locs hz33 hp34 hI hfr => ?_)
              clear hfr
              obtain ⟨rfl, rfl⟩ := hp34
              rw [show mSlot S29 t = mSlot S t from by rw [eS29]; exact mSlot_m0 S _ t]
              refine z_iconst hx hb dX5_shift_79 ?_
              refine z_idiv hx hb dX5_shift_80 (by omega) (by omega) (by omega) (by omega) ?_
              refine lv_dup2_11 hx hb dX5_shift_81 rfl rfl ?_
              refine za_i (κ := 3) (i := 0) hx hb hK hI v31 rfl (by omega) (by omega) (by omega) dX5_shift_82 (by rw [eS29, up3_n (by omega)]) (fun b35 => ?_)
              refine z_iconst hx hb dX5_shift_83 ?_
              refine z_isub hx hb dX5_shift_84 ?_
              refine zs_i (κ := 3) (i := 0) hx hb hK hI v31 rfl (by omega) (by omega) (by omega) (by have := hR.2.1 (mSlot S t / 3).toNat; omega) dX5_shift_85 (fun H locs hI => ?_)
              obtain ⟨S36, eS36⟩ : ∃ z, z = up3 S29 3 0 ((mSlot S t / 3).toNat) (S 3 0 ((mSlot S t / 3).toNat) - 1) := ⟨_, rfl⟩
              rw [← eS36] at hI
              have hW : mW n S36 := by rw [eS36]; exact hW.put rfl
              refine lv_aload_n hx hb dX5_shift_86 rfl (lv_at hl 0 rfl) ?_
              refine lv_iload_n hx hb dX5_shift_87 rfl (lv_at hl 1 rfl) ?_
              refine lv_iload_n hx hb dX5_shift_88 rfl (lv_at hl 2 rfl) ?_
              refine zc_v (zrV (As := [.int (iZ t), .int (iZ y)]) (rest := []) (κ := 0) (i := 0) ⟨hx, hb, hml, hown, hts⟩ (c_X5_comes l D cA n am S36 H.size t y hW (by omega) (by omega) (by rw [eS36, up3_n (by omega), eS29, up3_n (by omega)]; have := hR.2.1 y.toNat; have := hR.2.2.2 y.toNat; omega)) (cwV 2 hts gX5_shift_X5_comes rfl rfl rfl (by decide +kernel) ⟨Nat.le_of_ble_eq_true rfl, Nat.le_of_ble_eq_true rfl⟩) hK hI (hW.1 0 (by decide)) rfl rfl rfl hl.1 rfl (Nat.le_of_ble_eq_true rfl) dX5_shift_89 ⟨Nat.le_of_ble_eq_true rfl, Nat.le_of_ble_eq_true rfl⟩) hI (fun u9 H locs hp37 hI hfr => ?_)
              clear hfr
              obtain rfl := hp37
              obtain ⟨S38, eS38⟩ : ∃ z, z = mComes S36 t y := ⟨_, rfl⟩
              rw [← eS38] at hI
              have hW : mW n S38 := by rw [eS38]; exact (hW.put rfl).put rfl
              refine lv_aload_n hx hb dX5_shift_92 rfl (lv_at hl 0 rfl) ?_
              refine lv_dup hx hb dX5_shift_93 rfl ?_
              refine zg_i (κ := 0) (i := 0) (k := 22) hx hb LX5 hown hK hI (hW.1 0 (by decide)) rfl rfl (by decide) rfl f125 (fun _ h9 => h9) dX5_shift_94 (by rw [eS38, mComes_n (by omega), eS36, up3_n (by omega), eS29, up3_n (by omega)]) (fun b39 => ?_)
              refine z_iconst hx hb dX5_shift_97 ?_
              refine z_iadd hx hb dX5_shift_98 ?_
              refine zp_i (κ := 0) (i := 0) (k := 22) hx hb LX5 tyX5 tyX5_ok nmX5 hown hK hI (hW.1 0 (by decide)) rfl rfl (by decide) rfl f125 (fun _ h9 => h9) rfl rfl rfl (by omega) dX5_shift_99 (fun H locs hI => ?_)
              obtain ⟨S40, eS40⟩ : ∃ z, z = up3 S38 0 0 22 (S 0 0 22 + 1) := ⟨_, rfl⟩
              rw [← eS40] at hI
              have hW : mW n S40 := by rw [eS40]; exact hW.put rfl
              refine lv_aload_n hx hb dX5_shift_102 rfl (lv_at hl 0 rfl) ?_
              refine zg_i (κ := 0) (i := 0) (k := 22) hx hb LX5 hown hK hI (hW.1 0 (by decide)) rfl rfl (by decide) rfl f125 (fun _ h9 => h9) dX5_shift_103 (by rw [eS40, up3_s]) (fun b41 => ?_)
              exact (ze_i (u' := (n, am, S40)) (z := (S 0 0 22 + 1)) hx hb hr rfl hI (by omega) (Or.inr ⟨(show kShift S t y = 0 by unfold kShift; repeat (first | rw [if_pos (by first | omega | assumption)] | rw [if_neg (by first | omega | assumption)])), rfl, by rw [eS40, eS38, eS36, eS29]; rfl⟩) (Nat.le_of_ble_eq_true rfl) (Nat.le_of_ble_eq_true rfl) dX5_shift_106 hlocks)
            · skip
              have c30 := zB_1 c30
              omega
          · skip
            have c25 := zB_0 c25
            refine z_iconst hx hb dX5_shift_57 ?_
            refine lv_goto (tgt := 62) hx hb dX5_shift_58 (by decide) ?_
            refine zc_i (zrV (As := [.int (iZ 4)]) (rest := []) (κ := 0) (i := 0) ⟨hx, hb, hml, hown, hts⟩ (c_X5_fails l D cA n am S H.size 4 hW (by omega)) (cwV 1 hts gX5_shift_X5_fails rfl rfl rfl (by decide +kernel) ⟨Nat.le_of_ble_eq_true rfl, Nat.le_of_ble_eq_true rfl⟩) hK hI (hW.1 0 (by decide)) rfl rfl rfl hl.1 rfl (Nat.le_of_ble_eq_true rfl) dX5_shift_62 ⟨Nat.le_of_ble_eq_true rfl, Nat.le_of_ble_eq_true rfl⟩) hI (fun z42 u9 H locs hz43 hp44 hI hfr => ?_)
            clear hfr
            obtain ⟨rfl, rfl⟩ := hp44
            obtain ⟨S45, eS45⟩ : ∃ z, z = up3 S 0 0 24 4 := ⟨_, rfl⟩
            rw [← eS45] at hI
            have hW : mW n S45 := by rw [eS45]; exact hW.put rfl
            refine z_if_eq (tgt := 70) hx hb dX5_shift_65 (by decide) (by omega) (fun c46 => ?_) (fun c46 => ?_)
            · skip
              have c46 := zB_0 c46
              omega
            · skip
              have c46 := zB_1 c46
              refine z_iconst hx hb dX5_shift_68 ?_
              exact (ze_i (u' := (n, am, S45)) (z := 0) hx hb hr rfl hI (by omega) (Or.inl ⟨by rw [(show kShift S t y = 4 by unfold kShift; repeat (first | rw [if_pos (by first | omega | assumption)] | rw [if_neg (by first | omega | assumption)]))]; decide, by rw [(show kShift S t y = 4 by unfold kShift; repeat (first | rw [if_pos (by first | omega | assumption)] | rw [if_neg (by first | omega | assumption)])), eS45]⟩) (Nat.le_of_ble_eq_true rfl) (Nat.le_of_ble_eq_true rfl) dX5_shift_69 hlocks)
      · skip
        have c12 := zB_0 c12
        refine z_iconst hx hb dX5_shift_33 ?_
        refine lv_goto (tgt := 62) hx hb dX5_shift_34 (by decide) ?_
        refine zc_i (zrV (As := [.int (iZ 3)]) (rest := []) (κ := 0) (i := 0) ⟨hx, hb, hml, hown, hts⟩ (c_X5_fails l D cA n am S H.size 3 hW (by omega)) (cwV 1 hts gX5_shift_X5_fails rfl rfl rfl (by decide +kernel) ⟨Nat.le_of_ble_eq_true rfl, Nat.le_of_ble_eq_true rfl⟩) hK hI (hW.1 0 (by decide)) rfl rfl rfl hl.1 rfl (Nat.le_of_ble_eq_true rfl) dX5_shift_62 ⟨Nat.le_of_ble_eq_true rfl, Nat.le_of_ble_eq_true rfl⟩) hI (fun z47 u9 H locs hz48 hp49 hI hfr => ?_)
        clear hfr
        obtain ⟨rfl, rfl⟩ := hp49
        obtain ⟨S50, eS50⟩ : ∃ z, z = up3 S 0 0 24 3 := ⟨_, rfl⟩
        rw [← eS50] at hI
        have hW : mW n S50 := by rw [eS50]; exact hW.put rfl
        refine z_if_eq (tgt := 70) hx hb dX5_shift_65 (by decide) (by omega) (fun c51 => ?_) (fun c51 => ?_)
        · skip
          have c51 := zB_0 c51
          omega
        · skip
          have c51 := zB_1 c51
          refine z_iconst hx hb dX5_shift_68 ?_
          exact (ze_i (u' := (n, am, S50)) (z := 0) hx hb hr rfl hI (by omega) (Or.inl ⟨by rw [(show kShift S t y = 3 by unfold kShift; repeat (first | rw [if_pos (by first | omega | assumption)] | rw [if_neg (by first | omega | assumption)]))]; decide, by rw [(show kShift S t y = 3 by unfold kShift; repeat (first | rw [if_pos (by first | omega | assumption)] | rw [if_neg (by first | omega | assumption)])), eS50]⟩) (Nat.le_of_ble_eq_true rfl) (Nat.le_of_ble_eq_true rfl) dX5_shift_69 hlocks)
    · skip
      have c8 := zB_1 c8
      refine z_iconst hx hb dX5_shift_21 ?_
      refine lv_goto (tgt := 62) hx hb dX5_shift_22 (by decide) ?_
      refine zc_i (zrV (As := [.int (iZ 2)]) (rest := []) (κ := 0) (i := 0) ⟨hx, hb, hml, hown, hts⟩ (c_X5_fails l D cA n am S H.size 2 hW (by omega)) (cwV 1 hts gX5_shift_X5_fails rfl rfl rfl (by decide +kernel) ⟨Nat.le_of_ble_eq_true rfl, Nat.le_of_ble_eq_true rfl⟩) hK hI (hW.1 0 (by decide)) rfl rfl rfl hl.1 rfl (Nat.le_of_ble_eq_true rfl) dX5_shift_62 ⟨Nat.le_of_ble_eq_true rfl, Nat.le_of_ble_eq_true rfl⟩) hI (fun z52 u9 H locs hz53 hp54 hI hfr => ?_)
      clear hfr
      obtain ⟨rfl, rfl⟩ := hp54
      obtain ⟨S55, eS55⟩ : ∃ z, z = up3 S 0 0 24 2 := ⟨_, rfl⟩
      rw [← eS55] at hI
      have hW : mW n S55 := by rw [eS55]; exact hW.put rfl
      refine z_if_eq (tgt := 70) hx hb dX5_shift_65 (by decide) (by omega) (fun c56 => ?_) (fun c56 => ?_)
      · skip
        have c56 := zB_0 c56
        omega
      · skip
        have c56 := zB_1 c56
        refine z_iconst hx hb dX5_shift_68 ?_
        exact (ze_i (u' := (n, am, S55)) (z := 0) hx hb hr rfl hI (by omega) (Or.inl ⟨by rw [(show kShift S t y = 2 by unfold kShift; repeat (first | rw [if_pos (by first | omega | assumption)] | rw [if_neg (by first | omega | assumption)]))]; decide, by rw [(show kShift S t y = 2 by unfold kShift; repeat (first | rw [if_pos (by first | omega | assumption)] | rw [if_neg (by first | omega | assumption)])), eS55]⟩) (Nat.le_of_ble_eq_true rfl) (Nat.le_of_ble_eq_true rfl) dX5_shift_69 hlocks)
  · skip
    have c4 := zB_1 c4
    refine z_iconst hx hb dX5_shift_9 ?_
    refine lv_goto (tgt := 62) hx hb dX5_shift_10 (by decide) ?_
    refine zc_i (zrV (As := [.int (iZ 1)]) (rest := []) (κ := 0) (i := 0) ⟨hx, hb, hml, hown, hts⟩ (c_X5_fails l D cA n am S H.size 1 hW (by omega)) (cwV 1 hts gX5_shift_X5_fails rfl rfl rfl (by decide +kernel) ⟨Nat.le_of_ble_eq_true rfl, Nat.le_of_ble_eq_true rfl⟩) hK hI (hW.1 0 (by decide)) rfl rfl rfl hl.1 rfl (Nat.le_of_ble_eq_true rfl) dX5_shift_62 ⟨Nat.le_of_ble_eq_true rfl, Nat.le_of_ble_eq_true rfl⟩) hI (fun z57 u9 H locs hz58 hp59 hI hfr => ?_)
    clear hfr
    obtain ⟨rfl, rfl⟩ := hp59
    obtain ⟨S60, eS60⟩ : ∃ z, z = up3 S 0 0 24 1 := ⟨_, rfl⟩
    rw [← eS60] at hI
    have hW : mW n S60 := by rw [eS60]; exact hW.put rfl
    refine z_if_eq (tgt := 70) hx hb dX5_shift_65 (by decide) (by omega) (fun c61 => ?_) (fun c61 => ?_)
    · skip
      have c61 := zB_0 c61
      omega
    · skip
      have c61 := zB_1 c61
      refine z_iconst hx hb dX5_shift_68 ?_
      exact (ze_i (u' := (n, am, S60)) (z := 0) hx hb hr rfl hI (by omega) (Or.inl ⟨by rw [(show kShift S t y = 1 by unfold kShift; repeat (first | rw [if_pos (by first | omega | assumption)] | rw [if_neg (by first | omega | assumption)]))]; decide, by rw [(show kShift S t y = 1 by unfold kShift; repeat (first | rw [if_pos (by first | omega | assumption)] | rw [if_neg (by first | omega | assumption)])), eS60]⟩) (Nat.le_of_ble_eq_true rfl) (Nat.le_of_ble_eq_true rfl) dX5_shift_69 hlocks)
set_option maxHeartbeats 4000000 in
set_option maxRecDepth 100000 in
theorem c_X5_dock (l : Launch) (D : va_G) (cA : Nat → ClassId) (n : Nat → Nat) (am : ts_Am) (S : ts_St) (sz : Nat) (t d : Int) (hW : mW n S) (ht0 : iR t) (hd0 : iR d) (hR : mR S) : Met l yX5_dock wsX5_dock ({ frames := 3, cells := 0, slots := 0, locals := 66 } : Room) (va_Pc [.ref (am 0 0), .int (iZ t), .int (iZ d)] (zP TM D cA (n, am, S) sz)) (zQi TM D cA (n, am, S) sz (fun z u => (¬ kDock S t d = 0 ∧ u = (n, am, up3 S 0 0 24 (kDock S t d))) ∨ (kDock S t d = 0 ∧ z = S 0 0 21 + S 11 0 t.toNat ∧ u = (n, am, gDock S t d)))) 0 0 (ts_A (n, am, S) sz) := by
  refine zM_of (by decide) rfl (Nat.le_of_ble_eq_true rfl) ?_
  intro p e s m below meth c hx hb hr hts hown hlocks hml hname hK hsz H locs hI ls hl
  subst hsz
  have hown : s.vm.findClass RX5 = some m.cls := hown
  have hl : lv_has ls 3 [(0, .ref (am 0 0)), (1, .int (iZ t)), (2, .int (iZ d))] := hl
  have f125 := hts (.fieldLink RX5 125 "DockyardSlotsModel" "moves" "I") (by decide +kernel)
  have f17 := hts (.fieldLink RX5 17 "DockyardSlotsModel" "counts" "[I") (by decide +kernel)
  have f27 := hts (.fieldLink RX5 27 "DockyardSlotsModel" "atDoors" "[I") (by decide +kernel)
  have f36 := hts (.fieldLink RX5 36 "DockyardSlotsModel" "works" "[I") (by decide +kernel)
  have f39 := hts (.fieldLink RX5 39 "DockyardSlotsModel" "states" "[C") (by decide +kernel)
  have f45 := hts (.fieldLink RX5 45 "DockyardSlotsModel" "docked" "[I") (by decide +kernel)
  have f48 := hts (.fieldLink RX5 48 "DockyardSlotsModel" "places" "[I") (by decide +kernel)
  have f84 := hts (.fieldLink RX5 84 "DockyardSlotsModel" "doors" "I") (by decide +kernel)
  have f87 := hts (.fieldLink RX5 87 "DockyardSlotsModel" "time" "I") (by decide +kernel)
  have LX5 : ∀ w ∈ wsX50, w.before [.ref (am 0 0), .int (iZ t), .int (iZ d)].toArray s = true := fun w h => hts w (List.mem_cons_of_mem _ (List.mem_append_left _ (List.mem_append_right _ h)))
  have hR1 := hR.1
  have hsr := mSlot_R (S := S) (t := t) hR1.1.2 hR.2.1
  refine lv_aload_n hx hb dX5_dock_0 rfl (lv_at hl 0 rfl) ?_
  refine lv_aload_n hx hb dX5_dock_1 rfl (lv_at hl 0 rfl) ?_
  refine lv_iload_n hx hb dX5_dock_2 rfl (lv_at hl 1 rfl) ?_
  refine zc_i (zrV (As := [.int (iZ t)]) (rest := [.ref (am 0 0)]) (κ := 0) (i := 0) ⟨hx, hb, hml, hown, hts⟩ (c_X5_isNone l D cA n am S H.size t hW (by omega)) (cwV 1 hts gX5_dock_X5_isNone rfl rfl rfl (by decide +kernel) ⟨Nat.le_of_ble_eq_true rfl, Nat.le_of_ble_eq_true rfl⟩) hK hI (hW.1 0 (by decide)) rfl rfl rfl hl.1 rfl (Nat.le_of_ble_eq_true rfl) dX5_dock_3 ⟨Nat.le_of_ble_eq_true rfl, Nat.le_of_ble_eq_true rfl⟩) hI (fun z1 u9 H locs hz2 hp3 hI hfr => ?_)
  clear hfr
  obtain ⟨rfl, rfl⟩ := hp3
  refine z_if_eq (tgt := 13) hx hb dX5_dock_6 (by decide) (by omega) (fun c4 => ?_) (fun c4 => ?_)
  · skip
    have c4 := zB_0 c4
    refine lv_iload_n hx hb dX5_dock_13 rfl (lv_at hl 2 rfl) ?_
    refine z_iconst hx hb dX5_dock_14 ?_
    refine lv_aload_n hx hb dX5_dock_15 rfl (lv_at hl 0 rfl) ?_
    refine zg_i (κ := 0) (i := 0) (k := 5) hx hb LX5 hown hK hI (hW.1 0 (by decide)) rfl rfl (by decide) rfl f84 (fun _ h9 => h9) dX5_dock_16 rfl (fun b5 => ?_)
    refine z_iconst hx hb dX5_dock_19 ?_
    refine z_isub hx hb dX5_dock_20 ?_
    refine zc_i (zrS (As := [.int (iZ d), .int (iZ 0), .int (iZ (S 0 0 5 - 1))]) (rest := [.ref (am 0 0)]) ⟨hx, hb, hml, hown, hts⟩ (c_X5_in l D cA n am S H.size d 0 (S 0 0 5 - 1) (by omega) (by omega) (by omega)) (va_cwS 3 hts gX5_dock_X5_in rfl rfl rfl (by decide +kernel) ⟨Nat.le_of_ble_eq_true rfl, Nat.le_of_ble_eq_true rfl⟩) hK hI rfl hl.1 rfl (Nat.le_of_ble_eq_true rfl) dX5_dock_21 ⟨Nat.le_of_ble_eq_true rfl, Nat.le_of_ble_eq_true rfl⟩) hI (fun z6 u9 H locs hz7 hp8 hI hfr => ?_)
    clear hfr
    obtain ⟨rfl, rfl⟩ := hp8
    refine z_if_ne (tgt := 31) hx hb dX5_dock_24 (by decide) (by omega) (fun c9 => ?_) (fun c9 => ?_)
    · skip
      have c9 := zB_1 c9
      refine lv_aload_n hx hb dX5_dock_31 rfl (lv_at hl 0 rfl) ?_
      refine lv_iload_n hx hb dX5_dock_32 rfl (lv_at hl 1 rfl) ?_
      refine zc_i (zrV (As := [.int (iZ t)]) (rest := [.ref (am 0 0)]) (κ := 0) (i := 0) ⟨hx, hb, hml, hown, hts⟩ (c_X5_isReached l D cA n am S H.size t hW (by omega) hR.1.1 hR.2.1) (cwV 1 hts gX5_dock_X5_isReached rfl rfl rfl (by decide +kernel) ⟨Nat.le_of_ble_eq_true rfl, Nat.le_of_ble_eq_true rfl⟩) hK hI (hW.1 0 (by decide)) rfl rfl rfl hl.1 rfl (Nat.le_of_ble_eq_true rfl) dX5_dock_33 ⟨Nat.le_of_ble_eq_true rfl, Nat.le_of_ble_eq_true rfl⟩) hI (fun z10 u9 H locs hz11 hp12 hI hfr => ?_)
      clear hfr
      obtain ⟨rfl, rfl⟩ := hp12
      refine z_if_ne (tgt := 43) hx hb dX5_dock_36 (by decide) (by omega) (fun c13 => ?_) (fun c13 => ?_)
      · skip
        have c13 := zB_1 c13
        refine lv_aload_n hx hb dX5_dock_43 rfl (lv_at hl 0 rfl) ?_
        refine lv_iload_n hx hb dX5_dock_44 rfl (lv_at hl 2 rfl) ?_
        refine lv_iload_n hx hb dX5_dock_45 rfl (lv_at hl 1 rfl) ?_
        refine zc_i (zrV (As := [.int (iZ d), .int (iZ t)]) (rest := [.ref (am 0 0)]) (κ := 0) (i := 0) ⟨hx, hb, hml, hown, hts⟩ (c_X5_canServe l D cA n am S H.size d t hW (by omega) (by omega)) (cwV 2 hts gX5_dock_X5_canServe rfl rfl rfl (by decide +kernel) ⟨Nat.le_of_ble_eq_true rfl, Nat.le_of_ble_eq_true rfl⟩) hK hI (hW.1 0 (by decide)) rfl rfl rfl hl.1 rfl (Nat.le_of_ble_eq_true rfl) dX5_dock_46 ⟨Nat.le_of_ble_eq_true rfl, Nat.le_of_ble_eq_true rfl⟩) hI (fun z14 u9 H locs hz15 hp16 hI hfr => ?_)
        clear hfr
        obtain ⟨rfl, rfl⟩ := hp16
        refine z_if_eq (tgt := 56) hx hb dX5_dock_49 (by decide) (by omega) (fun c17 => ?_) (fun c17 => ?_)
        · skip
          have c17 := zB_0 c17
          refine z_iconst hx hb dX5_dock_56 ?_
          refine zc_i (zrV (As := [.int (iZ 4)]) (rest := []) (κ := 0) (i := 0) ⟨hx, hb, hml, hown, hts⟩ (c_X5_fails l D cA n am S H.size 4 hW (by omega)) (cwV 1 hts gX5_dock_X5_fails rfl rfl rfl (by decide +kernel) ⟨Nat.le_of_ble_eq_true rfl, Nat.le_of_ble_eq_true rfl⟩) hK hI (hW.1 0 (by decide)) rfl rfl rfl hl.1 rfl (Nat.le_of_ble_eq_true rfl) dX5_dock_57 ⟨Nat.le_of_ble_eq_true rfl, Nat.le_of_ble_eq_true rfl⟩) hI (fun z18 u9 H locs hz19 hp20 hI hfr => ?_)
          clear hfr
          obtain ⟨rfl, rfl⟩ := hp20
          obtain ⟨S21, eS21⟩ : ∃ z, z = up3 S 0 0 24 4 := ⟨_, rfl⟩
          rw [← eS21] at hI
          have hW : mW n S21 := by rw [eS21]; exact hW.put rfl
          refine z_if_eq (tgt := 65) hx hb dX5_dock_60 (by decide) (by omega) (fun c22 => ?_) (fun c22 => ?_)
          · skip
            have c22 := zB_0 c22
            omega
          · skip
            have c22 := zB_1 c22
            refine z_iconst hx hb dX5_dock_63 ?_
            exact (ze_i (u' := (n, am, S21)) (z := 0) hx hb hr rfl hI (by omega) (Or.inl ⟨by rw [(show kDock S t d = 4 by unfold kDock; repeat (first | rw [if_pos (by first | omega | assumption)] | rw [if_neg (by first | omega | assumption)]))]; decide, by rw [(show kDock S t d = 4 by unfold kDock; repeat (first | rw [if_pos (by first | omega | assumption)] | rw [if_neg (by first | omega | assumption)])), eS21]⟩) (Nat.le_of_ble_eq_true rfl) (Nat.le_of_ble_eq_true rfl) dX5_dock_64 hlocks)
        · skip
          have c17 := zB_1 c17
          refine z_iconst hx hb dX5_dock_52 ?_
          refine lv_goto (tgt := 57) hx hb dX5_dock_53 (by decide) ?_
          refine zc_i (zrV (As := [.int (iZ 0)]) (rest := []) (κ := 0) (i := 0) ⟨hx, hb, hml, hown, hts⟩ (c_X5_fails l D cA n am S H.size 0 hW (by omega)) (cwV 1 hts gX5_dock_X5_fails rfl rfl rfl (by decide +kernel) ⟨Nat.le_of_ble_eq_true rfl, Nat.le_of_ble_eq_true rfl⟩) hK hI (hW.1 0 (by decide)) rfl rfl rfl hl.1 rfl (Nat.le_of_ble_eq_true rfl) dX5_dock_57 ⟨Nat.le_of_ble_eq_true rfl, Nat.le_of_ble_eq_true rfl⟩) hI (fun z23 u9 H locs hz24 hp25 hI hfr => ?_)
          clear hfr
          obtain ⟨rfl, rfl⟩ := hp25
          obtain ⟨S26, eS26⟩ : ∃ z, z = up3 S 0 0 24 0 := ⟨_, rfl⟩
          rw [← eS26] at hI
          have hW : mW n S26 := by rw [eS26]; exact hW.put rfl
          refine z_if_eq (tgt := 65) hx hb dX5_dock_60 (by decide) (by omega) (fun c27 => ?_) (fun c27 => ?_)
          · skip
            have c27 := zB_0 c27
            have hRt := hR.2.2.1 t.toNat
            refine lv_aload_n hx hb dX5_dock_65 rfl (lv_at hl 0 rfl) ?_
            refine zg_r (κ := 0) (i := 0) (k := 3) (t := 3) (j := 0) hx hb LX5 hown hK hI (hW.1 0 (by decide)) rfl rfl (by decide) rfl f17 (fun _ h9 => h9) dX5_dock_66 (hW.rf 3 rfl) (fun v28 => ?_)
            refine lv_aload_n hx hb dX5_dock_69 rfl (lv_at hl 0 rfl) ?_
            refine lv_iload_n hx hb dX5_dock_70 rfl (lv_at hl 1 rfl) ?_
            refine zc_i (zrV (As := [.int (iZ t)]) (rest := [.ref (am 3 0)]) (κ := 0) (i := 0) ⟨hx, hb, hml, hown, hts⟩ (c_X5_slotOf l D cA n am S26 H.size t hW (by omega) (by rw [show S26 0 0 0 = S 0 0 0 from (by rw [eS26, up3_n (by omega)])]; exact hR.1.1) (fun l => by rw [show S26 3 0 l = S 3 0 l from (by rw [eS26, up3_n (by omega)])]; exact hR.2.1 l)) (cwV 1 hts gX5_dock_X5_slotOf rfl rfl rfl (by decide +kernel) ⟨Nat.le_of_ble_eq_true rfl, Nat.le_of_ble_eq_true rfl⟩) hK hI (hW.1 0 (by decide)) rfl rfl rfl hl.1 rfl (Nat.le_of_ble_eq_true rfl) dX5_dock_71 ⟨Nat.le_of_ble_eq_true rfl, Nat.le_of_ble_eq_true rfl⟩) hI (fun z29 u9 H locs hz30 hp31 hI hfr => ?_)
            clear hfr
            obtain ⟨rfl, rfl⟩ := hp31
            rw [show mSlot S26 t = mSlot S t from by rw [eS26]; exact mSlot_m0 S _ t]
            refine z_iconst hx hb dX5_dock_74 ?_
            refine z_idiv hx hb dX5_dock_75 (by omega) (by omega) (by omega) (by omega) ?_
            refine lv_dup2_11 hx hb dX5_dock_76 rfl rfl ?_
            refine za_i (κ := 3) (i := 0) hx hb hK hI v28 rfl (by omega) (by omega) (by omega) dX5_dock_77 (by rw [eS26, up3_n (by omega)]) (fun b32 => ?_)
            refine z_iconst hx hb dX5_dock_78 ?_
            refine z_isub hx hb dX5_dock_79 ?_
            refine zs_i (κ := 3) (i := 0) hx hb hK hI v28 rfl (by omega) (by omega) (by omega) (by have := hR.2.1 (mSlot S t / 3).toNat; omega) dX5_dock_80 (fun H locs hI => ?_)
            obtain ⟨S33, eS33⟩ : ∃ z, z = up3 S26 3 0 ((mSlot S t / 3).toNat) (S 3 0 ((mSlot S t / 3).toNat) - 1) := ⟨_, rfl⟩
            rw [← eS33] at hI
            have hW : mW n S33 := by rw [eS33]; exact hW.put rfl
            refine lv_aload_n hx hb dX5_dock_81 rfl (lv_at hl 0 rfl) ?_
            refine zg_r (κ := 0) (i := 0) (k := 7) (t := 7) (j := 0) hx hb LX5 hown hK hI (hW.1 0 (by decide)) rfl rfl (by decide) rfl f27 (fun _ h9 => h9) dX5_dock_82 (hW.rf 7 rfl) (fun v34 => ?_)
            refine lv_iload_n hx hb dX5_dock_85 rfl (lv_at hl 2 rfl) ?_
            refine lv_iload_n hx hb dX5_dock_86 rfl (lv_at hl 1 rfl) ?_
            refine zs_i (κ := 7) (i := 0) hx hb hK hI v34 rfl (by omega) (by omega) (by omega) (by omega) dX5_dock_87 (fun H locs hI => ?_)
            obtain ⟨S35, eS35⟩ : ∃ z, z = up3 S33 7 0 d.toNat t := ⟨_, rfl⟩
            rw [← eS35] at hI
            have hW : mW n S35 := by rw [eS35]; exact hW.put rfl
            refine lv_aload_n hx hb dX5_dock_88 rfl (lv_at hl 0 rfl) ?_
            refine zg_r (κ := 0) (i := 0) (k := 15) (t := 15) (j := 0) hx hb LX5 hown hK hI (hW.1 0 (by decide)) rfl rfl (by decide) rfl f48 (fun _ h9 => h9) dX5_dock_89 (hW.rf 15 rfl) (fun v36 => ?_)
            refine lv_iload_n hx hb dX5_dock_92 rfl (lv_at hl 1 rfl) ?_
            refine lv_iload_n hx hb dX5_dock_93 rfl (lv_at hl 2 rfl) ?_
            refine zs_i (κ := 15) (i := 0) hx hb hK hI v36 rfl (by omega) (by omega) (by omega) (by omega) dX5_dock_94 (fun H locs hI => ?_)
            obtain ⟨S37, eS37⟩ : ∃ z, z = up3 S35 15 0 t.toNat d := ⟨_, rfl⟩
            rw [← eS37] at hI
            have hW : mW n S37 := by rw [eS37]; exact hW.put rfl
            refine lv_aload_n hx hb dX5_dock_95 rfl (lv_at hl 0 rfl) ?_
            refine zg_r (κ := 0) (i := 0) (k := 14) (t := 14) (j := 0) hx hb LX5 hown hK hI (hW.1 0 (by decide)) rfl rfl (by decide) rfl f45 (fun _ h9 => h9) dX5_dock_96 (hW.rf 14 rfl) (fun v38 => ?_)
            refine lv_iload_n hx hb dX5_dock_99 rfl (lv_at hl 1 rfl) ?_
            refine lv_aload_n hx hb dX5_dock_100 rfl (lv_at hl 0 rfl) ?_
            refine zg_i (κ := 0) (i := 0) (k := 21) hx hb LX5 hown hK hI (hW.1 0 (by decide)) rfl rfl (by decide) rfl f87 (fun _ h9 => h9) dX5_dock_101 (by rw [eS37, up3_n (by omega), eS35, up3_n (by omega), eS33, up3_n (by omega), eS26, up3_n (by omega)]) (fun b39 => ?_)
            refine zs_i (κ := 14) (i := 0) hx hb hK hI v38 rfl (by omega) (by omega) (by omega) (by omega) dX5_dock_104 (fun H locs hI => ?_)
            obtain ⟨S40, eS40⟩ : ∃ z, z = up3 S37 14 0 t.toNat (S 0 0 21) := ⟨_, rfl⟩
            rw [← eS40] at hI
            have hW : mW n S40 := by rw [eS40]; exact hW.put rfl
            refine lv_aload_n hx hb dX5_dock_105 rfl (lv_at hl 0 rfl) ?_
            refine zg_r (κ := 0) (i := 0) (k := 12) (t := 12) (j := 0) hx hb LX5 hown hK hI (hW.1 0 (by decide)) rfl rfl (by decide) rfl f39 (fun _ h9 => h9) dX5_dock_106 (hW.rf 12 rfl) (fun v41 => ?_)
            refine lv_iload_n hx hb dX5_dock_109 rfl (lv_at hl 1 rfl) ?_
            refine z_bipush hx hb dX5_dock_110 (by decide) ?_
            refine zs_c (κ := 12) (i := 0) hx hb hK hI v41 rfl (by omega) (by omega) (by omega) (by omega) (by omega) (by omega) dX5_dock_112 (fun H locs hI => ?_)
            obtain ⟨S42, eS42⟩ : ∃ z, z = up3 S40 12 0 t.toNat 119 := ⟨_, rfl⟩
            rw [← eS42] at hI
            have hW : mW n S42 := by rw [eS42]; exact hW.put rfl
            refine lv_aload_n hx hb dX5_dock_113 rfl (lv_at hl 0 rfl) ?_
            refine lv_dup hx hb dX5_dock_114 rfl ?_
            refine zg_i (κ := 0) (i := 0) (k := 22) hx hb LX5 hown hK hI (hW.1 0 (by decide)) rfl rfl (by decide) rfl f125 (fun _ h9 => h9) dX5_dock_115 (by rw [eS42, up3_n (by omega), eS40, up3_n (by omega), eS37, up3_n (by omega), eS35, up3_n (by omega), eS33, up3_n (by omega), eS26, up3_n (by omega)]) (fun b43 => ?_)
            refine z_iconst hx hb dX5_dock_118 ?_
            refine z_iadd hx hb dX5_dock_119 ?_
            refine zp_i (κ := 0) (i := 0) (k := 22) hx hb LX5 tyX5 tyX5_ok nmX5 hown hK hI (hW.1 0 (by decide)) rfl rfl (by decide) rfl f125 (fun _ h9 => h9) rfl rfl rfl (by omega) dX5_dock_120 (fun H locs hI => ?_)
            obtain ⟨S44, eS44⟩ : ∃ z, z = up3 S42 0 0 22 (S 0 0 22 + 1) := ⟨_, rfl⟩
            rw [← eS44] at hI
            have hW : mW n S44 := by rw [eS44]; exact hW.put rfl
            refine lv_aload_n hx hb dX5_dock_123 rfl (lv_at hl 0 rfl) ?_
            refine zg_i (κ := 0) (i := 0) (k := 21) hx hb LX5 hown hK hI (hW.1 0 (by decide)) rfl rfl (by decide) rfl f87 (fun _ h9 => h9) dX5_dock_124 (by rw [eS44, up3_n (by omega), eS42, up3_n (by omega), eS40, up3_n (by omega), eS37, up3_n (by omega), eS35, up3_n (by omega), eS33, up3_n (by omega), eS26, up3_n (by omega)]) (fun b45 => ?_)
            refine lv_aload_n hx hb dX5_dock_127 rfl (lv_at hl 0 rfl) ?_
            refine zg_r (κ := 0) (i := 0) (k := 11) (t := 11) (j := 0) hx hb LX5 hown hK hI (hW.1 0 (by decide)) rfl rfl (by decide) rfl f36 (fun _ h9 => h9) dX5_dock_128 (hW.rf 11 rfl) (fun v46 => ?_)
            refine lv_iload_n hx hb dX5_dock_131 rfl (lv_at hl 1 rfl) ?_
            refine za_i (κ := 11) (i := 0) hx hb hK hI v46 rfl (by omega) (by omega) (by omega) dX5_dock_132 (by rw [eS44, up3_n (by omega), eS42, up3_n (by omega), eS40, up3_n (by omega), eS37, up3_n (by omega), eS35, up3_n (by omega), eS33, up3_n (by omega), eS26, up3_n (by omega)]) (fun b47 => ?_)
            refine z_iadd hx hb dX5_dock_133 ?_
            exact (ze_i (u' := (n, am, S44)) (z := (S 0 0 21 + S 11 0 t.toNat)) hx hb hr rfl hI (by omega) (Or.inr ⟨(show kDock S t d = 0 by unfold kDock; repeat (first | rw [if_pos (by first | omega | assumption)] | rw [if_neg (by first | omega | assumption)])), rfl, by rw [eS44, eS42, eS40, eS37, eS35, eS33, eS26]; rfl⟩) (Nat.le_of_ble_eq_true rfl) (Nat.le_of_ble_eq_true rfl) dX5_dock_134 hlocks)
          · skip
            have c27 := zB_1 c27
            omega
      · skip
        have c13 := zB_0 c13
        refine z_iconst hx hb dX5_dock_39 ?_
        refine lv_goto (tgt := 57) hx hb dX5_dock_40 (by decide) ?_
        refine zc_i (zrV (As := [.int (iZ 3)]) (rest := []) (κ := 0) (i := 0) ⟨hx, hb, hml, hown, hts⟩ (c_X5_fails l D cA n am S H.size 3 hW (by omega)) (cwV 1 hts gX5_dock_X5_fails rfl rfl rfl (by decide +kernel) ⟨Nat.le_of_ble_eq_true rfl, Nat.le_of_ble_eq_true rfl⟩) hK hI (hW.1 0 (by decide)) rfl rfl rfl hl.1 rfl (Nat.le_of_ble_eq_true rfl) dX5_dock_57 ⟨Nat.le_of_ble_eq_true rfl, Nat.le_of_ble_eq_true rfl⟩) hI (fun z48 u9 H locs hz49 hp50 hI hfr => ?_)
        clear hfr
        obtain ⟨rfl, rfl⟩ := hp50
        obtain ⟨S51, eS51⟩ : ∃ z, z = up3 S 0 0 24 3 := ⟨_, rfl⟩
        rw [← eS51] at hI
        have hW : mW n S51 := by rw [eS51]; exact hW.put rfl
        refine z_if_eq (tgt := 65) hx hb dX5_dock_60 (by decide) (by omega) (fun c52 => ?_) (fun c52 => ?_)
        · skip
          have c52 := zB_0 c52
          omega
        · skip
          have c52 := zB_1 c52
          refine z_iconst hx hb dX5_dock_63 ?_
          exact (ze_i (u' := (n, am, S51)) (z := 0) hx hb hr rfl hI (by omega) (Or.inl ⟨by rw [(show kDock S t d = 3 by unfold kDock; repeat (first | rw [if_pos (by first | omega | assumption)] | rw [if_neg (by first | omega | assumption)]))]; decide, by rw [(show kDock S t d = 3 by unfold kDock; repeat (first | rw [if_pos (by first | omega | assumption)] | rw [if_neg (by first | omega | assumption)])), eS51]⟩) (Nat.le_of_ble_eq_true rfl) (Nat.le_of_ble_eq_true rfl) dX5_dock_64 hlocks)
    · skip
      have c9 := zB_0 c9
      refine z_iconst hx hb dX5_dock_27 ?_
      refine lv_goto (tgt := 57) hx hb dX5_dock_28 (by decide) ?_
      refine zc_i (zrV (As := [.int (iZ 2)]) (rest := []) (κ := 0) (i := 0) ⟨hx, hb, hml, hown, hts⟩ (c_X5_fails l D cA n am S H.size 2 hW (by omega)) (cwV 1 hts gX5_dock_X5_fails rfl rfl rfl (by decide +kernel) ⟨Nat.le_of_ble_eq_true rfl, Nat.le_of_ble_eq_true rfl⟩) hK hI (hW.1 0 (by decide)) rfl rfl rfl hl.1 rfl (Nat.le_of_ble_eq_true rfl) dX5_dock_57 ⟨Nat.le_of_ble_eq_true rfl, Nat.le_of_ble_eq_true rfl⟩) hI (fun z53 u9 H locs hz54 hp55 hI hfr => ?_)
      clear hfr
      obtain ⟨rfl, rfl⟩ := hp55
      obtain ⟨S56, eS56⟩ : ∃ z, z = up3 S 0 0 24 2 := ⟨_, rfl⟩
      rw [← eS56] at hI
      have hW : mW n S56 := by rw [eS56]; exact hW.put rfl
      refine z_if_eq (tgt := 65) hx hb dX5_dock_60 (by decide) (by omega) (fun c57 => ?_) (fun c57 => ?_)
      · skip
        have c57 := zB_0 c57
        omega
      · skip
        have c57 := zB_1 c57
        refine z_iconst hx hb dX5_dock_63 ?_
        exact (ze_i (u' := (n, am, S56)) (z := 0) hx hb hr rfl hI (by omega) (Or.inl ⟨by rw [(show kDock S t d = 2 by unfold kDock; repeat (first | rw [if_pos (by first | omega | assumption)] | rw [if_neg (by first | omega | assumption)]))]; decide, by rw [(show kDock S t d = 2 by unfold kDock; repeat (first | rw [if_pos (by first | omega | assumption)] | rw [if_neg (by first | omega | assumption)])), eS56]⟩) (Nat.le_of_ble_eq_true rfl) (Nat.le_of_ble_eq_true rfl) dX5_dock_64 hlocks)
  · skip
    have c4 := zB_1 c4
    refine z_iconst hx hb dX5_dock_9 ?_
    refine lv_goto (tgt := 57) hx hb dX5_dock_10 (by decide) ?_
    refine zc_i (zrV (As := [.int (iZ 1)]) (rest := []) (κ := 0) (i := 0) ⟨hx, hb, hml, hown, hts⟩ (c_X5_fails l D cA n am S H.size 1 hW (by omega)) (cwV 1 hts gX5_dock_X5_fails rfl rfl rfl (by decide +kernel) ⟨Nat.le_of_ble_eq_true rfl, Nat.le_of_ble_eq_true rfl⟩) hK hI (hW.1 0 (by decide)) rfl rfl rfl hl.1 rfl (Nat.le_of_ble_eq_true rfl) dX5_dock_57 ⟨Nat.le_of_ble_eq_true rfl, Nat.le_of_ble_eq_true rfl⟩) hI (fun z58 u9 H locs hz59 hp60 hI hfr => ?_)
    clear hfr
    obtain ⟨rfl, rfl⟩ := hp60
    obtain ⟨S61, eS61⟩ : ∃ z, z = up3 S 0 0 24 1 := ⟨_, rfl⟩
    rw [← eS61] at hI
    have hW : mW n S61 := by rw [eS61]; exact hW.put rfl
    refine z_if_eq (tgt := 65) hx hb dX5_dock_60 (by decide) (by omega) (fun c62 => ?_) (fun c62 => ?_)
    · skip
      have c62 := zB_0 c62
      omega
    · skip
      have c62 := zB_1 c62
      refine z_iconst hx hb dX5_dock_63 ?_
      exact (ze_i (u' := (n, am, S61)) (z := 0) hx hb hr rfl hI (by omega) (Or.inl ⟨by rw [(show kDock S t d = 1 by unfold kDock; repeat (first | rw [if_pos (by first | omega | assumption)] | rw [if_neg (by first | omega | assumption)]))]; decide, by rw [(show kDock S t d = 1 by unfold kDock; repeat (first | rw [if_pos (by first | omega | assumption)] | rw [if_neg (by first | omega | assumption)])), eS61]⟩) (Nat.le_of_ble_eq_true rfl) (Nat.le_of_ble_eq_true rfl) dX5_dock_64 hlocks)
set_option maxHeartbeats 4000000 in
set_option maxRecDepth 100000 in
theorem c_X5_leave (l : Launch) (D : va_G) (cA : Nat → ClassId) (n : Nat → Nat) (am : ts_Am) (S : ts_St) (sz : Nat) (t : Int) (hW : mW n S) (ht0 : iR t) (hR : mR S) : Met l yX5_leave wsX5_leave ({ frames := 2, cells := 0, slots := 0, locals := 45 } : Room) (va_Pc [.ref (am 0 0), .int (iZ t)] (zP TM D cA (n, am, S) sz)) (zQi TM D cA (n, am, S) sz (fun z u => (¬ kLeave S t = 0 ∧ u = (n, am, up3 S 0 0 24 (kLeave S t))) ∨ (kLeave S t = 0 ∧ z = mCost (gLeave S t) t.toNat ∧ u = (n, am, gLeave S t)))) 0 0 (ts_A (n, am, S) sz) := by
  refine zM_of (by decide) rfl (Nat.le_of_ble_eq_true rfl) ?_
  intro p e s m below meth c hx hb hr hts hown hlocks hml hname hK hsz H locs hI ls hl
  subst hsz
  have hown : s.vm.findClass RX5 = some m.cls := hown
  have hl : lv_has ls 2 [(0, .ref (am 0 0)), (1, .int (iZ t))] := hl
  have f134 := hts (.fieldLink RX5 134 "DockyardSlotsModel" "charged" "J") (by decide +kernel)
  have f27 := hts (.fieldLink RX5 27 "DockyardSlotsModel" "atDoors" "[I") (by decide +kernel)
  have f36 := hts (.fieldLink RX5 36 "DockyardSlotsModel" "works" "[I") (by decide +kernel)
  have f39 := hts (.fieldLink RX5 39 "DockyardSlotsModel" "states" "[C") (by decide +kernel)
  have f45 := hts (.fieldLink RX5 45 "DockyardSlotsModel" "docked" "[I") (by decide +kernel)
  have f48 := hts (.fieldLink RX5 48 "DockyardSlotsModel" "places" "[I") (by decide +kernel)
  have f87 := hts (.fieldLink RX5 87 "DockyardSlotsModel" "time" "I") (by decide +kernel)
  have LX5 : ∀ w ∈ wsX50, w.before [.ref (am 0 0), .int (iZ t)].toArray s = true := fun w h => hts w (List.mem_cons_of_mem _ (List.mem_append_left _ (List.mem_append_right _ h)))
  have hR1 := hR.1
  refine lv_aload_n hx hb dX5_leave_0 rfl (lv_at hl 0 rfl) ?_
  refine lv_aload_n hx hb dX5_leave_1 rfl (lv_at hl 0 rfl) ?_
  refine lv_iload_n hx hb dX5_leave_2 rfl (lv_at hl 1 rfl) ?_
  refine zc_i (zrV (As := [.int (iZ t)]) (rest := [.ref (am 0 0)]) (κ := 0) (i := 0) ⟨hx, hb, hml, hown, hts⟩ (c_X5_isNone l D cA n am S H.size t hW (by omega)) (cwV 1 hts gX5_leave_X5_isNone rfl rfl rfl (by decide +kernel) ⟨Nat.le_of_ble_eq_true rfl, Nat.le_of_ble_eq_true rfl⟩) hK hI (hW.1 0 (by decide)) rfl rfl rfl hl.1 rfl (Nat.le_of_ble_eq_true rfl) dX5_leave_3 ⟨Nat.le_of_ble_eq_true rfl, Nat.le_of_ble_eq_true rfl⟩) hI (fun z1 u9 H locs hz2 hp3 hI hfr => ?_)
  clear hfr
  obtain ⟨rfl, rfl⟩ := hp3
  refine z_if_eq (tgt := 13) hx hb dX5_leave_6 (by decide) (by omega) (fun c4 => ?_) (fun c4 => ?_)
  · skip
    have c4 := zB_0 c4
    refine lv_aload_n hx hb dX5_leave_13 rfl (lv_at hl 0 rfl) ?_
    refine zg_r (κ := 0) (i := 0) (k := 12) (t := 12) (j := 0) hx hb LX5 hown hK hI (hW.1 0 (by decide)) rfl rfl (by decide) rfl f39 (fun _ h9 => h9) dX5_leave_14 (hW.rf 12 rfl) (fun v5 => ?_)
    refine lv_iload_n hx hb dX5_leave_17 rfl (lv_at hl 1 rfl) ?_
    refine za_c (κ := 12) (i := 0) hx hb hK hI v5 rfl (by omega) (by omega) (by omega) dX5_leave_18 rfl (fun b6 => ?_)
    refine z_bipush hx hb dX5_leave_19 (by decide) ?_
    refine z_icmp_eq (tgt := 28) hx hb dX5_leave_21 (by decide) (by omega) (by omega) (fun c7 => ?_) (fun c7 => ?_)
    · skip
      refine lv_aload_n hx hb dX5_leave_28 rfl (lv_at hl 0 rfl) ?_
      refine zg_i (κ := 0) (i := 0) (k := 21) hx hb LX5 hown hK hI (hW.1 0 (by decide)) rfl rfl (by decide) rfl f87 (fun _ h9 => h9) dX5_leave_29 rfl (fun b8 => ?_)
      refine lv_aload_n hx hb dX5_leave_32 rfl (lv_at hl 0 rfl) ?_
      refine zg_r (κ := 0) (i := 0) (k := 14) (t := 14) (j := 0) hx hb LX5 hown hK hI (hW.1 0 (by decide)) rfl rfl (by decide) rfl f45 (fun _ h9 => h9) dX5_leave_33 (hW.rf 14 rfl) (fun v9 => ?_)
      refine lv_iload_n hx hb dX5_leave_36 rfl (lv_at hl 1 rfl) ?_
      refine za_i (κ := 14) (i := 0) hx hb hK hI v9 rfl (by omega) (by omega) (by omega) dX5_leave_37 rfl (fun b10 => ?_)
      refine lv_aload_n hx hb dX5_leave_38 rfl (lv_at hl 0 rfl) ?_
      refine zg_r (κ := 0) (i := 0) (k := 11) (t := 11) (j := 0) hx hb LX5 hown hK hI (hW.1 0 (by decide)) rfl rfl (by decide) rfl f36 (fun _ h9 => h9) dX5_leave_39 (hW.rf 11 rfl) (fun v11 => ?_)
      refine lv_iload_n hx hb dX5_leave_42 rfl (lv_at hl 1 rfl) ?_
      refine za_i (κ := 11) (i := 0) hx hb hK hI v11 rfl (by omega) (by omega) (by omega) dX5_leave_43 rfl (fun b12 => ?_)
      refine z_iadd hx hb dX5_leave_44 ?_
      refine z_icmp_ge (tgt := 52) hx hb dX5_leave_45 (by decide) (by omega) (by omega) (fun c13 => ?_) (fun c13 => ?_)
      · skip
        refine z_iconst hx hb dX5_leave_52 ?_
        refine zc_i (zrV (As := [.int (iZ 0)]) (rest := []) (κ := 0) (i := 0) ⟨hx, hb, hml, hown, hts⟩ (c_X5_fails l D cA n am S H.size 0 hW (by omega)) (cwV 1 hts gX5_leave_X5_fails rfl rfl rfl (by decide +kernel) ⟨Nat.le_of_ble_eq_true rfl, Nat.le_of_ble_eq_true rfl⟩) hK hI (hW.1 0 (by decide)) rfl rfl rfl hl.1 rfl (Nat.le_of_ble_eq_true rfl) dX5_leave_53 ⟨Nat.le_of_ble_eq_true rfl, Nat.le_of_ble_eq_true rfl⟩) hI (fun z14 u9 H locs hz15 hp16 hI hfr => ?_)
        clear hfr
        obtain ⟨rfl, rfl⟩ := hp16
        obtain ⟨S17, eS17⟩ : ∃ z, z = up3 S 0 0 24 0 := ⟨_, rfl⟩
        rw [← eS17] at hI
        have hW : mW n S17 := by rw [eS17]; exact hW.put rfl
        refine z_if_eq (tgt := 61) hx hb dX5_leave_56 (by decide) (by omega) (fun c18 => ?_) (fun c18 => ?_)
        · skip
          have c18 := zB_0 c18
          have hRt := hR.2.2.1 t.toNat
          refine lv_aload_n hx hb dX5_leave_61 rfl (lv_at hl 0 rfl) ?_
          refine zg_r (κ := 0) (i := 0) (k := 12) (t := 12) (j := 0) hx hb LX5 hown hK hI (hW.1 0 (by decide)) rfl rfl (by decide) rfl f39 (fun _ h9 => h9) dX5_leave_62 (hW.rf 12 rfl) (fun v19 => ?_)
          refine lv_iload_n hx hb dX5_leave_65 rfl (lv_at hl 1 rfl) ?_
          refine z_bipush hx hb dX5_leave_66 (by decide) ?_
          refine zs_c (κ := 12) (i := 0) hx hb hK hI v19 rfl (by omega) (by omega) (by omega) (by omega) (by omega) (by omega) dX5_leave_68 (fun H locs hI => ?_)
          obtain ⟨S20, eS20⟩ : ∃ z, z = up3 S17 12 0 t.toNat 103 := ⟨_, rfl⟩
          rw [← eS20] at hI
          have hW : mW n S20 := by rw [eS20]; exact hW.put rfl
          refine lv_aload_n hx hb dX5_leave_69 rfl (lv_at hl 0 rfl) ?_
          refine zg_r (κ := 0) (i := 0) (k := 7) (t := 7) (j := 0) hx hb LX5 hown hK hI (hW.1 0 (by decide)) rfl rfl (by decide) rfl f27 (fun _ h9 => h9) dX5_leave_70 (hW.rf 7 rfl) (fun v21 => ?_)
          refine lv_aload_n hx hb dX5_leave_73 rfl (lv_at hl 0 rfl) ?_
          refine zg_r (κ := 0) (i := 0) (k := 15) (t := 15) (j := 0) hx hb LX5 hown hK hI (hW.1 0 (by decide)) rfl rfl (by decide) rfl f48 (fun _ h9 => h9) dX5_leave_74 (hW.rf 15 rfl) (fun v22 => ?_)
          refine lv_iload_n hx hb dX5_leave_77 rfl (lv_at hl 1 rfl) ?_
          refine za_i (κ := 15) (i := 0) hx hb hK hI v22 rfl (by omega) (by omega) (by omega) dX5_leave_78 (by rw [eS20, up3_n (by omega), eS17, up3_n (by omega)]) (fun b23 => ?_)
          refine z_iconst hx hb dX5_leave_79 ?_
          refine zs_i (κ := 7) (i := 0) hx hb hK hI v21 rfl (by omega) (by omega) (by omega) (by omega) dX5_leave_80 (fun H locs hI => ?_)
          obtain ⟨S24, eS24⟩ : ∃ z, z = up3 S20 7 0 ((S 15 0 t.toNat).toNat) (-1) := ⟨_, rfl⟩
          rw [← eS24] at hI
          have hW : mW n S24 := by rw [eS24]; exact hW.put rfl
          refine lv_aload_n hx hb dX5_leave_81 rfl (lv_at hl 0 rfl) ?_
          refine lv_dup hx hb dX5_leave_82 rfl ?_
          refine zg_l (κ := 0) (i := 0) (k := 23) hx hb LX5 hown hK hI (hW.1 0 (by decide)) rfl rfl (by decide) rfl f134 (fun _ h9 => h9) dX5_leave_83 (by rw [eS24, up3_n (by omega), eS20, up3_n (by omega), eS17, up3_n (by omega)]) ?_
          refine lv_aload_n hx hb dX5_leave_86 rfl (lv_at hl 0 rfl) ?_
          refine lv_iload_n hx hb dX5_leave_87 rfl (lv_at hl 1 rfl) ?_
          refine zc_i (zrV (As := [.int (iZ t)]) (rest := [.long (lZ (S 0 0 23)), .ref (am 0 0)]) (κ := 0) (i := 0) ⟨hx, hb, hml, hown, hts⟩ (c_X5_costs l D cA n am S24 H.size t hW (by omega) (by rw [eS24, eS20, eS17]; exact gLeave0_R hR t)) (cwV 1 hts gX5_leave_X5_costs rfl rfl rfl (by decide +kernel) ⟨Nat.le_of_ble_eq_true rfl, Nat.le_of_ble_eq_true rfl⟩) hK hI (hW.1 0 (by decide)) rfl rfl rfl hl.1 rfl (Nat.le_of_ble_eq_true rfl) dX5_leave_88 ⟨Nat.le_of_ble_eq_true rfl, Nat.le_of_ble_eq_true rfl⟩) hI (fun z26 u9 H locs hz27 hp28 hI hfr => ?_)
          clear hfr
          obtain ⟨rfl, rfl⟩ := hp28
          have hco := mCost_R (S := S24) (by rw [eS24, eS20, eS17]; exact gLeave0_R hR t) t.toNat
          refine z_i2l hx hb dX5_leave_91 (by omega) ?_
          refine z_ladd hx hb dX5_leave_92 ?_
          refine zp_l (κ := 0) (i := 0) (k := 23) hx hb LX5 tyX5 tyX5_ok nmX5 hown hK hI (hW.1 0 (by decide)) rfl rfl (by decide) rfl f134 (fun _ h9 => h9) rfl rfl rfl dX5_leave_93 (fun H locs hI => ?_)
          obtain ⟨S29, eS29⟩ : ∃ z, z = up3 S24 0 0 23 (S 0 0 23 + mCost S24 t.toNat) := ⟨_, rfl⟩
          rw [← eS29] at hI
          have hW : mW n S29 := by rw [eS29]; exact hW.put rfl
          refine lv_aload_n hx hb dX5_leave_96 rfl (lv_at hl 0 rfl) ?_
          refine lv_iload_n hx hb dX5_leave_97 rfl (lv_at hl 1 rfl) ?_
          refine zc_i (zrV (As := [.int (iZ t)]) (rest := []) (κ := 0) (i := 0) ⟨hx, hb, hml, hown, hts⟩ (c_X5_costs l D cA n am S29 H.size t hW (by omega) (by rw [eS29, eS24, eS20, eS17]; exact (gLeave0_R hR t).put (by unfold mRv; omega))) (cwV 1 hts gX5_leave_X5_costs rfl rfl rfl (by decide +kernel) ⟨Nat.le_of_ble_eq_true rfl, Nat.le_of_ble_eq_true rfl⟩) hK hI (hW.1 0 (by decide)) rfl rfl rfl hl.1 rfl (Nat.le_of_ble_eq_true rfl) dX5_leave_98 ⟨Nat.le_of_ble_eq_true rfl, Nat.le_of_ble_eq_true rfl⟩) hI (fun z30 u9 H locs hz31 hp32 hI hfr => ?_)
          clear hfr
          obtain ⟨rfl, rfl⟩ := hp32
          exact (ze_i (u' := (n, am, S29)) (z := mCost S29 t.toNat) hx hb hr rfl hI (by have := mCost_R (S := S29) (by rw [eS29, eS24, eS20, eS17]; exact (gLeave0_R hR t).put (by unfold mRv; omega)) t.toNat; omega) (Or.inr ⟨(show kLeave S t = 0 by unfold kLeave; repeat (first | rw [if_pos (by first | omega | assumption)] | rw [if_neg (by first | omega | assumption)])), by rw [eS29, eS24, eS20, eS17]; rfl, by rw [eS29, eS24, eS20, eS17]; rfl⟩) (Nat.le_of_ble_eq_true rfl) (Nat.le_of_ble_eq_true rfl) dX5_leave_101 hlocks)
        · skip
          have c18 := zB_1 c18
          omega
      · skip
        refine z_iconst hx hb dX5_leave_48 ?_
        refine lv_goto (tgt := 53) hx hb dX5_leave_49 (by decide) ?_
        refine zc_i (zrV (As := [.int (iZ 3)]) (rest := []) (κ := 0) (i := 0) ⟨hx, hb, hml, hown, hts⟩ (c_X5_fails l D cA n am S H.size 3 hW (by omega)) (cwV 1 hts gX5_leave_X5_fails rfl rfl rfl (by decide +kernel) ⟨Nat.le_of_ble_eq_true rfl, Nat.le_of_ble_eq_true rfl⟩) hK hI (hW.1 0 (by decide)) rfl rfl rfl hl.1 rfl (Nat.le_of_ble_eq_true rfl) dX5_leave_53 ⟨Nat.le_of_ble_eq_true rfl, Nat.le_of_ble_eq_true rfl⟩) hI (fun z33 u9 H locs hz34 hp35 hI hfr => ?_)
        clear hfr
        obtain ⟨rfl, rfl⟩ := hp35
        obtain ⟨S36, eS36⟩ : ∃ z, z = up3 S 0 0 24 3 := ⟨_, rfl⟩
        rw [← eS36] at hI
        have hW : mW n S36 := by rw [eS36]; exact hW.put rfl
        refine z_if_eq (tgt := 61) hx hb dX5_leave_56 (by decide) (by omega) (fun c37 => ?_) (fun c37 => ?_)
        · skip
          have c37 := zB_0 c37
          omega
        · skip
          have c37 := zB_1 c37
          refine z_iconst hx hb dX5_leave_59 ?_
          exact (ze_i (u' := (n, am, S36)) (z := 0) hx hb hr rfl hI (by omega) (Or.inl ⟨by rw [(show kLeave S t = 3 by unfold kLeave; repeat (first | rw [if_pos (by first | omega | assumption)] | rw [if_neg (by first | omega | assumption)]))]; decide, by rw [(show kLeave S t = 3 by unfold kLeave; repeat (first | rw [if_pos (by first | omega | assumption)] | rw [if_neg (by first | omega | assumption)])), eS36]⟩) (Nat.le_of_ble_eq_true rfl) (Nat.le_of_ble_eq_true rfl) dX5_leave_60 hlocks)
    · skip
      refine z_iconst hx hb dX5_leave_24 ?_
      refine lv_goto (tgt := 53) hx hb dX5_leave_25 (by decide) ?_
      refine zc_i (zrV (As := [.int (iZ 2)]) (rest := []) (κ := 0) (i := 0) ⟨hx, hb, hml, hown, hts⟩ (c_X5_fails l D cA n am S H.size 2 hW (by omega)) (cwV 1 hts gX5_leave_X5_fails rfl rfl rfl (by decide +kernel) ⟨Nat.le_of_ble_eq_true rfl, Nat.le_of_ble_eq_true rfl⟩) hK hI (hW.1 0 (by decide)) rfl rfl rfl hl.1 rfl (Nat.le_of_ble_eq_true rfl) dX5_leave_53 ⟨Nat.le_of_ble_eq_true rfl, Nat.le_of_ble_eq_true rfl⟩) hI (fun z38 u9 H locs hz39 hp40 hI hfr => ?_)
      clear hfr
      obtain ⟨rfl, rfl⟩ := hp40
      obtain ⟨S41, eS41⟩ : ∃ z, z = up3 S 0 0 24 2 := ⟨_, rfl⟩
      rw [← eS41] at hI
      have hW : mW n S41 := by rw [eS41]; exact hW.put rfl
      refine z_if_eq (tgt := 61) hx hb dX5_leave_56 (by decide) (by omega) (fun c42 => ?_) (fun c42 => ?_)
      · skip
        have c42 := zB_0 c42
        omega
      · skip
        have c42 := zB_1 c42
        refine z_iconst hx hb dX5_leave_59 ?_
        exact (ze_i (u' := (n, am, S41)) (z := 0) hx hb hr rfl hI (by omega) (Or.inl ⟨by rw [(show kLeave S t = 2 by unfold kLeave; repeat (first | rw [if_pos (by first | omega | assumption)] | rw [if_neg (by first | omega | assumption)]))]; decide, by rw [(show kLeave S t = 2 by unfold kLeave; repeat (first | rw [if_pos (by first | omega | assumption)] | rw [if_neg (by first | omega | assumption)])), eS41]⟩) (Nat.le_of_ble_eq_true rfl) (Nat.le_of_ble_eq_true rfl) dX5_leave_60 hlocks)
  · skip
    have c4 := zB_1 c4
    refine z_iconst hx hb dX5_leave_9 ?_
    refine lv_goto (tgt := 53) hx hb dX5_leave_10 (by decide) ?_
    refine zc_i (zrV (As := [.int (iZ 1)]) (rest := []) (κ := 0) (i := 0) ⟨hx, hb, hml, hown, hts⟩ (c_X5_fails l D cA n am S H.size 1 hW (by omega)) (cwV 1 hts gX5_leave_X5_fails rfl rfl rfl (by decide +kernel) ⟨Nat.le_of_ble_eq_true rfl, Nat.le_of_ble_eq_true rfl⟩) hK hI (hW.1 0 (by decide)) rfl rfl rfl hl.1 rfl (Nat.le_of_ble_eq_true rfl) dX5_leave_53 ⟨Nat.le_of_ble_eq_true rfl, Nat.le_of_ble_eq_true rfl⟩) hI (fun z43 u9 H locs hz44 hp45 hI hfr => ?_)
    clear hfr
    obtain ⟨rfl, rfl⟩ := hp45
    obtain ⟨S46, eS46⟩ : ∃ z, z = up3 S 0 0 24 1 := ⟨_, rfl⟩
    rw [← eS46] at hI
    have hW : mW n S46 := by rw [eS46]; exact hW.put rfl
    refine z_if_eq (tgt := 61) hx hb dX5_leave_56 (by decide) (by omega) (fun c47 => ?_) (fun c47 => ?_)
    · skip
      have c47 := zB_0 c47
      omega
    · skip
      have c47 := zB_1 c47
      refine z_iconst hx hb dX5_leave_59 ?_
      exact (ze_i (u' := (n, am, S46)) (z := 0) hx hb hr rfl hI (by omega) (Or.inl ⟨by rw [(show kLeave S t = 1 by unfold kLeave; repeat (first | rw [if_pos (by first | omega | assumption)] | rw [if_neg (by first | omega | assumption)]))]; decide, by rw [(show kLeave S t = 1 by unfold kLeave; repeat (first | rw [if_pos (by first | omega | assumption)] | rw [if_neg (by first | omega | assumption)])), eS46]⟩) (Nat.le_of_ble_eq_true rfl) (Nat.le_of_ble_eq_true rfl) dX5_leave_60 hlocks)
set_option maxHeartbeats 4000000 in
set_option maxRecDepth 100000 in
theorem c_X5_freeDoor (l : Launch) (D : va_G) (cA : Nat → ClassId) (n : Nat → Nat) (am : ts_Am) (S : ts_St) (sz : Nat) (t : Int) (hW : mW n S) (ht0 : iR t) (hR : mR S) : Met l yX5_freeDoor wsX5_freeDoor ({ frames := 2, cells := 0, slots := 0, locals := 43 } : Room) (va_Pc [.ref (am 0 0), .int (iZ t)] (zP TM D cA (n, am, S) sz)) (zQi TM D cA (n, am, S) sz (fun z u => (¬ kFree S t = 0 ∧ u = (n, am, up3 S 0 0 24 (kFree S t))) ∨ (kFree S t = 0 ∧ z = mFree S t.toNat (S 0 0 5).toNat ∧ u = (n, am, m0 S 0)))) 0 0 (ts_A (n, am, S) sz) := by
  refine zM_of (by decide) rfl (Nat.le_of_ble_eq_true rfl) ?_
  intro p e s m below meth c hx hb hr hts hown hlocks hml hname hK hsz H locs hI ls hl
  subst hsz
  have hown : s.vm.findClass RX5 = some m.cls := hown
  have hl : lv_has ls 3 [(0, .ref (am 0 0)), (1, .int (iZ t))] := hl
  have f67 := hts (.fieldLink RX5 67 "DockyardSlotsModel" "code" "I") (by decide +kernel)
  have f84 := hts (.fieldLink RX5 84 "DockyardSlotsModel" "doors" "I") (by decide +kernel)
  have LX5 : ∀ w ∈ wsX50, w.before [.ref (am 0 0), .int (iZ t)].toArray s = true := fun w h => hts w (List.mem_cons_of_mem _ (List.mem_append_left _ (List.mem_append_right _ h)))
  have hR1 := hR.1
  refine lv_aload_n hx hb dX5_freeDoor_0 rfl (lv_at hl 0 rfl) ?_
  refine lv_aload_n hx hb dX5_freeDoor_1 rfl (lv_at hl 0 rfl) ?_
  refine lv_iload_n hx hb dX5_freeDoor_2 rfl (lv_at hl 1 rfl) ?_
  refine zc_i (zrV (As := [.int (iZ t)]) (rest := [.ref (am 0 0)]) (κ := 0) (i := 0) ⟨hx, hb, hml, hown, hts⟩ (c_X5_isNone l D cA n am S H.size t hW (by omega)) (cwV 1 hts gX5_freeDoor_X5_isNone rfl rfl rfl (by decide +kernel) ⟨Nat.le_of_ble_eq_true rfl, Nat.le_of_ble_eq_true rfl⟩) hK hI (hW.1 0 (by decide)) rfl rfl rfl hl.1 rfl (Nat.le_of_ble_eq_true rfl) dX5_freeDoor_3 ⟨Nat.le_of_ble_eq_true rfl, Nat.le_of_ble_eq_true rfl⟩) hI (fun z1 u9 H locs hz2 hp3 hI hfr => ?_)
  clear hfr
  obtain ⟨rfl, rfl⟩ := hp3
  refine z_if_eq (tgt := 13) hx hb dX5_freeDoor_6 (by decide) (by omega) (fun c4 => ?_) (fun c4 => ?_)
  · skip
    have c4 := zB_0 c4
    refine z_iconst hx hb dX5_freeDoor_13 ?_
    refine zc_i (zrV (As := [.int (iZ 0)]) (rest := []) (κ := 0) (i := 0) ⟨hx, hb, hml, hown, hts⟩ (c_X5_fails l D cA n am S H.size 0 hW (by omega)) (cwV 1 hts gX5_freeDoor_X5_fails rfl rfl rfl (by decide +kernel) ⟨Nat.le_of_ble_eq_true rfl, Nat.le_of_ble_eq_true rfl⟩) hK hI (hW.1 0 (by decide)) rfl rfl rfl hl.1 rfl (Nat.le_of_ble_eq_true rfl) dX5_freeDoor_14 ⟨Nat.le_of_ble_eq_true rfl, Nat.le_of_ble_eq_true rfl⟩) hI (fun z5 u9 H locs hz6 hp7 hI hfr => ?_)
    clear hfr
    obtain ⟨rfl, rfl⟩ := hp7
    obtain ⟨S8, eS8⟩ : ∃ z, z = up3 S 0 0 24 0 := ⟨_, rfl⟩
    rw [← eS8] at hI
    have hW : mW n S8 := by rw [eS8]; exact hW.put rfl
    refine z_if_eq (tgt := 22) hx hb dX5_freeDoor_17 (by decide) (by omega) (fun c9 => ?_) (fun c9 => ?_)
    · skip
      have c9 := zB_0 c9
      refine z_iconst hx hb dX5_freeDoor_22 ?_
      refine lv_istore_n (lv' := [(2, .int (iZ 0)), (0, .ref (am 0 0)), (1, .int (iZ t))]) hx hb dX5_freeDoor_23 rfl hl (by decide) rfl (fun ls hl => ?_)
      obtain ⟨y, e_y⟩ : ∃ z : Int, z = 0 := ⟨_, rfl⟩
      replace hl : lv_has ls 3 [(2, .int (iZ y)), (0, .ref (am 0 0)), (1, .int (iZ t))] := by rw [e_y]; exact hl
      have h1 : 0 ≤ y ∧ y ≤ S 0 0 5 := by omega
      have h2 : mFree S t.toNat y.toNat = -1 := by rw [e_y]; rfl
      obtain ⟨k24, hk24⟩ : ∃ k : Nat, S 0 0 5 - y < (k : Int) := ⟨(S 0 0 5 - y).toNat + 1, by omega⟩
      clear e_y
      induction k24 generalizing y H locs ls with
      | zero => omega
      | succ k24 ih24 =>
        refine lv_iload_n hx hb dX5_freeDoor_24 rfl (lv_at hl 0 rfl) ?_
        refine lv_aload_n hx hb dX5_freeDoor_25 rfl (lv_at hl 1 rfl) ?_
        refine zg_i (κ := 0) (i := 0) (k := 5) hx hb LX5 hown hK hI (hW.1 0 (by decide)) rfl rfl (by decide) rfl f84 (fun _ h9 => h9) dX5_freeDoor_26 (by rw [eS8, up3_n (by omega)]) (fun b10 => ?_)
        refine z_icmp_ge (tgt := 49) hx hb dX5_freeDoor_29 (by decide) (by omega) (by omega) (fun c11 => ?_) (fun c11 => ?_)
        · skip
          refine lv_aload_n hx hb dX5_freeDoor_49 rfl (lv_at hl 1 rfl) ?_
          refine z_iconst hx hb dX5_freeDoor_50 ?_
          refine zp_i (κ := 0) (i := 0) (k := 24) hx hb LX5 tyX5 tyX5_ok nmX5 hown hK hI (hW.1 0 (by decide)) rfl rfl (by decide) rfl f67 (fun _ h9 => h9) rfl rfl rfl (by omega) dX5_freeDoor_51 (fun H locs hI => ?_)
          obtain ⟨S12, eS12⟩ : ∃ z, z = up3 S8 0 0 24 2 := ⟨_, rfl⟩
          rw [← eS12] at hI
          have hW : mW n S12 := by rw [eS12]; exact hW.put rfl
          refine z_iconst hx hb dX5_freeDoor_54 ?_
          exact (ze_i (u' := (n, am, S12)) (z := 0) hx hb hr rfl hI (by omega) (by have hm : kFree S t = 2 := (by unfold kFree; rw [if_neg (by omega), ← (show y = S 0 0 5 by omega), h2]; decide); rw [hm]; exact Or.inl ⟨by decide, by rw [eS12, eS8, up3_up3]⟩) (Nat.le_of_ble_eq_true rfl) (Nat.le_of_ble_eq_true rfl) dX5_freeDoor_55 hlocks)
        · skip
          refine lv_aload_n hx hb dX5_freeDoor_32 rfl (lv_at hl 1 rfl) ?_
          refine lv_iload_n hx hb dX5_freeDoor_33 rfl (lv_at hl 0 rfl) ?_
          refine lv_iload_n hx hb dX5_freeDoor_34 rfl (lv_at hl 2 rfl) ?_
          refine zc_i (zrV (As := [.int (iZ y), .int (iZ t)]) (rest := []) (κ := 0) (i := 0) ⟨hx, hb, hml, hown, hts⟩ (c_X5_canServe l D cA n am S8 H.size y t hW (by omega) (by omega)) (cwV 2 hts gX5_freeDoor_X5_canServe rfl rfl rfl (by decide +kernel) ⟨Nat.le_of_ble_eq_true rfl, Nat.le_of_ble_eq_true rfl⟩) hK hI (hW.1 0 (by decide)) rfl rfl rfl hl.1 rfl (Nat.le_of_ble_eq_true rfl) dX5_freeDoor_35 ⟨Nat.le_of_ble_eq_true rfl, Nat.le_of_ble_eq_true rfl⟩) hI (fun z13 u9 H locs hz14 hp15 hI hfr => ?_)
          clear hfr
          obtain ⟨rfl, rfl⟩ := hp15
          have hzr := zB_iR (mServe S y.toNat t.toNat)
          rw [show mServe S8 y.toNat t.toNat = mServe S y.toNat t.toNat from by rw [eS8]; rfl]
          refine z_if_eq (tgt := 43) hx hb dX5_freeDoor_38 (by decide) (by omega) (fun c16 => ?_) (fun c16 => ?_)
          · skip
            have c16 := zB_0 c16
            refine z_iinc (k := 0) (lv' := [(2, .int (iZ (y + 1))), (0, .ref (am 0 0)), (1, .int (iZ t))]) hx hb dX5_freeDoor_43 hl rfl (by decide) rfl (fun ls hl => ?_)
            refine lv_goto (tgt := 24) hx hb dX5_freeDoor_46 (by decide) ?_
            exact ih24 (y := (y + 1)) (h1 := by omega) (h2 := by exact mFree_n (by omega) h2 c16) (hk24 := by omega) (hI := hI) (hl := lv_sub hl [0, 1, 2] rfl)
          · skip
            have c16 := zB_1 c16
            refine lv_iload_n hx hb dX5_freeDoor_41 rfl (lv_at hl 0 rfl) ?_
            exact (ze_i (u' := (n, am, S8)) (z := y) hx hb hr rfl hI (by omega) (by have hm := mFree_hit (S := S) (t := t.toNat) (D := S 0 0 5) (by omega) (by omega) h2 c16; exact Or.inr ⟨by unfold kFree; rw [if_neg (by omega), if_neg (by omega)], hm.symm, by rw [eS8]⟩) (Nat.le_of_ble_eq_true rfl) (Nat.le_of_ble_eq_true rfl) dX5_freeDoor_42 hlocks)
    · skip
      have c9 := zB_1 c9
      omega
  · skip
    have c4 := zB_1 c4
    refine z_iconst hx hb dX5_freeDoor_9 ?_
    refine lv_goto (tgt := 14) hx hb dX5_freeDoor_10 (by decide) ?_
    refine zc_i (zrV (As := [.int (iZ 1)]) (rest := []) (κ := 0) (i := 0) ⟨hx, hb, hml, hown, hts⟩ (c_X5_fails l D cA n am S H.size 1 hW (by omega)) (cwV 1 hts gX5_freeDoor_X5_fails rfl rfl rfl (by decide +kernel) ⟨Nat.le_of_ble_eq_true rfl, Nat.le_of_ble_eq_true rfl⟩) hK hI (hW.1 0 (by decide)) rfl rfl rfl hl.1 rfl (Nat.le_of_ble_eq_true rfl) dX5_freeDoor_14 ⟨Nat.le_of_ble_eq_true rfl, Nat.le_of_ble_eq_true rfl⟩) hI (fun z17 u9 H locs hz18 hp19 hI hfr => ?_)
    clear hfr
    obtain ⟨rfl, rfl⟩ := hp19
    obtain ⟨S20, eS20⟩ : ∃ z, z = up3 S 0 0 24 1 := ⟨_, rfl⟩
    rw [← eS20] at hI
    have hW : mW n S20 := by rw [eS20]; exact hW.put rfl
    refine z_if_eq (tgt := 22) hx hb dX5_freeDoor_17 (by decide) (by omega) (fun c21 => ?_) (fun c21 => ?_)
    · skip
      have c21 := zB_0 c21
      omega
    · skip
      have c21 := zB_1 c21
      refine z_iconst hx hb dX5_freeDoor_20 ?_
      exact (ze_i (u' := (n, am, S20)) (z := 0) hx hb hr rfl hI (by omega) (Or.inl ⟨by rw [show kFree S t = 1 from if_pos (by omega)]; decide, by rw [show kFree S t = 1 from if_pos (by omega), eS20]⟩) (Nat.le_of_ble_eq_true rfl) (Nat.le_of_ble_eq_true rfl) dX5_freeDoor_21 hlocks)
