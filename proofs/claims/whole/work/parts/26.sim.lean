/-! The two systems side by side. -/
/-- the scalars -/
def sB (n : Nat → Nat) (C M : ts_St) : Prop := (M 0 0 0 = (n 5 : Int) ∧ M 0 0 5 = (n 7 : Int) ∧ M 0 0 8 = (n 8 : Int)) ∧ M 0 0 16 = C 0 0 5 ∧ M 0 0 17 = C 0 0 6 ∧ M 0 0 18 = C 0 0 7 ∧ M 0 0 19 = C 0 0 8 ∧ M 0 0 20 = C 0 0 9 ∧ M 0 0 21 = C 0 0 10 ∧ M 0 0 22 = C 0 0 11 ∧ M 0 0 23 = C 0 0 12
/-- the lanes -/
def sL (n : Nat → Nat) (C M : ts_St) : Prop := (∀ i : Nat, i < n 5 → M 1 0 i = C 5 i 1 ∧ M 2 0 i = C 5 i 2 ∧ M 3 0 i = C 5 i 4) ∧ (∀ i : Nat, ¬ i < n 5 → M 1 0 i = 0 ∧ M 2 0 i = 0 ∧ M 3 0 i = 0) ∧ ∀ i k : Nat, i < n 5 → (k : Int) < C 5 i 4 → k < 3 → M 4 0 (3 * i + k) = C 6 i k
/-- the doors -/
def sD (n : Nat → Nat) (C M : ts_St) : Prop := (∀ d : Nat, d < n 7 → M 6 0 d = C 7 d 0 ∧ (M 7 0 d < 0 ↔ C 7 d 1 = 0)) ∧ ∀ d : Nat, ¬ d < n 7 → M 6 0 d = 0
/-- the appointments -/
def sA (n : Nat → Nat) (C M : ts_St) : Prop := (∀ j : Nat, j < n 8 → M 9 0 j = C 8 j 1 ∧ M 10 0 j = C 8 j 2 ∧ M 11 0 j = C 8 j 3 ∧ M 12 0 j = C 8 j 4 ∧ M 13 0 j = C 8 j 5 ∧ M 14 0 j = C 8 j 6) ∧ ∀ j : Nat, ¬ j < n 8 → M 9 0 j = 0 ∧ M 10 0 j = 0 ∧ M 11 0 j = 0 ∧ M 12 0 j = 0 ∧ M 13 0 j = 0 ∧ M 14 0 j = 0
/-- where a trailer is -/
def sW (n : Nat → Nat) (C M : ts_St) : Prop := (∀ j : Nat, j < n 8 → (C 8 j 4 = 121 ↔ 0 ≤ C 8 j 7) ∧ (C 8 j 4 = 119 ↔ 0 ≤ C 8 j 9) ∧ (0 ≤ C 8 j 9 → C 8 j 9 < (n 7 : Int) ∧ M 15 0 j = C 8 j 9) ∧ (C 8 j 4 = 98 → C 0 0 10 - C 8 j 1 ≤ 24)) ∧ ∀ x : Nat, 0 ≤ M 15 0 x ∧ M 15 0 x ≤ 3
def Sim (n : Nat → Nat) (C M : ts_St) : Prop := (cW n C ∧ n 6 = n 5 ∧ cR n C ∧ cJ n C) ∧ sB n C M ∧ sL n C M ∧ sD n C M ∧ sA n C M ∧ sW n C M
section SIM
variable {n : Nat → Nat} {C M : ts_St}
theorem Sim.V (h : Sim n C M) : mEq (yV n C M) M := by
  obtain ⟨⟨hW, h65, hR, hJ⟩, hB, hL, hD, hA, hS⟩ := h
  refine ⟨fun κ i k q => ?_, fun l j q1 q2 => ?_⟩
  · unfold yV
    by_cases hi : i = 0
    · rw [if_pos hi, hi]
      match κ with
      | 4 => exact absurd rfl q
      | 0 =>
        simp only [yVk]
        split
        · rename_i z; subst z; exact hB.1.1
        · split
          · rename_i z; subst z; exact hB.1.2.1
          · split
            · rename_i z; subst z; exact hB.1.2.2
            · split
              · rename_i z
                obtain ⟨-, b1, b2, b3, b4, b5, b6, b7, b8⟩ := hB
                rcases (show k = 16 ∨ k = 17 ∨ k = 18 ∨ k = 19 ∨ k = 20 ∨ k = 21 ∨ k = 22 ∨ k = 23 by omega) with rfl | rfl | rfl | rfl | rfl | rfl | rfl | rfl <;> assumption
              · rfl
      | 1 =>
        simp only [yVk]
        split
        · exact (hL.1 k (by assumption)).1
        · exact (hL.2.1 k (by assumption)).1
      | 2 =>
        simp only [yVk]
        split
        · exact (hL.1 k (by assumption)).2.1
        · exact (hL.2.1 k (by assumption)).2.1
      | 3 =>
        simp only [yVk]
        split
        · exact (hL.1 k (by assumption)).2.2
        · exact (hL.2.1 k (by assumption)).2.2
      | 5 => rfl
      | 6 =>
        simp only [yVk]
        split
        · exact (hD.1 k (by assumption)).1
        · exact hD.2 k (by assumption)
      | 7 => rfl
      | 8 => rfl
      | 9 =>
        simp only [yVk]
        split
        · exact (hA.1 k (by assumption)).1
        · exact (hA.2 k (by assumption)).1
      | 10 =>
        simp only [yVk]
        split
        · exact (hA.1 k (by assumption)).2.1
        · exact (hA.2 k (by assumption)).2.1
      | 11 =>
        simp only [yVk]
        split
        · exact (hA.1 k (by assumption)).2.2.1
        · exact (hA.2 k (by assumption)).2.2.1
      | 12 =>
        simp only [yVk]
        split
        · exact (hA.1 k (by assumption)).2.2.2.1
        · exact (hA.2 k (by assumption)).2.2.2.1
      | 13 =>
        simp only [yVk]
        split
        · exact (hA.1 k (by assumption)).2.2.2.2.1
        · exact (hA.2 k (by assumption)).2.2.2.2.1
      | 14 =>
        simp only [yVk]
        split
        · exact (hA.1 k (by assumption)).2.2.2.2.2
        · exact (hA.2 k (by assumption)).2.2.2.2.2
      | z + 15 => rfl
    · rw [if_neg hi]
  · by_cases hl : l < n 5
    · rw [yV_3 hl] at q1
      rw [yV_4s _ _ _ q2]
      exact hL.2.2 l j hl q1 q2
    · rw [yV_3n hl] at q1
      omega
theorem Sim.VR (h : Sim n C M) : mR (yV n C M) := yV_R h.1.1 h.1.2.2.1 h.1.2.2.2 h.2.2.2.2.2.2
theorem Sim.mR (h : Sim n C M) : mR M := h.V.R h.VR
theorem Sim.Lv (h : Sim n C M) : mLv M := h.V.Lv h.VR (yV_Lv h.1.1 h.1.2.2.2)
theorem Sim.sl (h : Sim n C M) {t : Int} (h0 : 0 ≤ t) (h1 : t < (n 8 : Int)) (h7 : 0 ≤ C 8 t.toNat 7) : mSlot M t = 3 * C 8 t.toNat 7 + C 8 t.toNat 8 := by
  have e := mSlot_eq (t := t) h.V h.VR.2.1
  rw [e, show t = ((t.toNat : Nat) : Int) by omega, yV_slot h.1.2.2.2 (by omega) h7, Int.toNat_natCast]
theorem Sim.pl (h : Sim n C M) {t : Int} (h0 : 0 ≤ t) (h1 : t < (n 8 : Int)) (h7 : 0 ≤ C 8 t.toNat 7) : C 8 t.toNat 7 < (n 5 : Int) ∧ 0 ≤ C 8 t.toNat 8 ∧ C 8 t.toNat 8 < C 5 (C 8 t.toNat 7).toNat 4 ∧ C 5 (C 8 t.toNat 7).toNat 4 ≤ 3 ∧ C 6 (C 8 t.toNat 7).toNat (C 8 t.toNat 8).toNat = t := by
  obtain ⟨k1, k2, k3, k4⟩ := (h.1.2.2.2.2 t.toNat (by omega)).2 h7
  have k5 := (h.1.2.2.2.1 (C 8 t.toNat 7).toNat (by omega)).1
  exact ⟨k1, k2, k3, by omega, by omega⟩
theorem Sim.none (h : Sim n C M) {t : Int} (h0 : 0 ≤ t) (h1 : t < (n 8 : Int)) (h7 : C 8 t.toNat 7 < 0) : mSlot M t < 0 := by
  have e := mSlot_eq (t := t) h.V h.VR.2.1
  rw [e, show t = ((t.toNat : Nat) : Int) by omega]
  exact yV_none h.1.2.2.2 (by omega) h7
theorem Sim.hys (h : Sim n C M) : ∀ t : Int, 0 ≤ t → t < M 0 0 8 → M 12 0 t.toNat = 121 → 0 ≤ mSlot M t := by
  intro t h0 h1 h2
  rw [h.2.1.1.2.2] at h1
  have hA := (h.2.2.2.2.1.1 t.toNat (by omega)).2.2.2.1
  have h7 := ((h.2.2.2.2.2.1 t.toNat (by omega)).1).mp (by omega)
  rw [h.sl h0 h1 h7]
  have := h.pl h0 h1 h7
  omega
theorem Sim.punc (h : Sim n C M) {j : Nat} (hj : j < n 8) : mPunc M j = yPunc C j := by
  have a := h.2.2.2.2.1.1 j hj
  have b := h.2.1
  have r := h.1.2.2.1.1
  unfold mPunc yPunc
  rw [a.1, a.2.2.2.2.1, b.2.1]
  split
  · rw [if_neg (by omega), if_pos (by omega)]
  · split
    · rw [if_pos (by omega)]
    · rw [if_neg (by omega), if_neg (by omega)]
theorem Sim.wait (h : Sim n C M) {j : Nat} (hj : j < n 8) : mWait M j = yWait C j := by
  have a := h.2.2.2.2.1.1 j hj
  have b := h.2.1
  unfold mWait yWait
  rw [a.1, a.2.2.2.2.1, a.2.2.2.1, a.2.2.2.2.2, b.2.2.2.2.2.2.1]
theorem Sim.cost (h : Sim n C M) {j : Nat} (hj : j < n 8) : mCost M j = yCharge C j := by
  have b := h.2.1
  have r := h.1.2.2.1.1
  unfold mCost yCharge yPaid
  rw [h.punc hj, h.wait hj, b.2.2.1, b.2.2.2.1, b.2.2.2.2.1, b.2.2.2.2.2.1]
  by_cases q : yPunc C j = 108
  · rw [if_pos (Or.inl q), if_pos q]
  · rw [if_neg q]
    by_cases q2 : yWait C j - C 0 0 6 ≤ 0
    · rw [if_pos (Or.inr q2), show max 0 (yWait C j - C 0 0 6) = 0 by omega, show min 0 (C 0 0 8) = 0 by omega]
      simp
    · rw [if_neg (by omega), show max 0 (yWait C j - C 0 0 6) = yWait C j - C 0 0 6 by omega]
      by_cases q3 : yWait C j - C 0 0 6 ≤ C 0 0 8
      · rw [if_pos q3, show min (yWait C j - C 0 0 6) (C 0 0 8) = yWait C j - C 0 0 6 by omega, Int.sub_self, Int.zero_mul, Int.add_zero]
      · rw [if_neg q3, show min (yWait C j - C 0 0 6) (C 0 0 8) = C 0 0 8 by omega]
theorem yRS_eq {C : ts_St} (h6 : 0 ≤ C 0 0 6) (h8 : 0 ≤ C 0 0 8) (k : Nat) : yRS C k = min (max 0 ((k : Int) - C 0 0 6)) (C 0 0 8) * C 0 0 7 + (max 0 ((k : Int) - C 0 0 6) - min (max 0 ((k : Int) - C 0 0 6)) (C 0 0 8)) * C 0 0 9 := by
  induction k with
  | zero =>
    rw [show max 0 (((0 : Nat) : Int) - C 0 0 6) = 0 by omega, show min 0 (C 0 0 8) = 0 by omega]
    simp [yRS]
  | succ k ih =>
    show yRS C k + yRate C (k : Int) = _
    rw [ih]
    unfold yRate
    split
    · rename_i q
      rw [show max 0 ((k : Int) - C 0 0 6) = 0 by omega, show max 0 (((k + 1 : Nat) : Int) - C 0 0 6) = 0 by omega, Int.add_zero]
    · rename_i q
      split
      · rename_i q2
        rw [show min (max 0 ((k : Int) - C 0 0 6)) (C 0 0 8) = (k : Int) - C 0 0 6 by omega, show min (max 0 (((k + 1 : Nat) : Int) - C 0 0 6)) (C 0 0 8) = (k : Int) - C 0 0 6 + 1 by omega, show max 0 ((k : Int) - C 0 0 6) = (k : Int) - C 0 0 6 by omega, show max 0 (((k + 1 : Nat) : Int) - C 0 0 6) = (k : Int) - C 0 0 6 + 1 by omega, Int.sub_self, Int.sub_self, Int.zero_mul, Int.add_mul, Int.one_mul]
        omega
      · rename_i q2
        rw [show min (max 0 ((k : Int) - C 0 0 6)) (C 0 0 8) = C 0 0 8 by omega, show min (max 0 (((k + 1 : Nat) : Int) - C 0 0 6)) (C 0 0 8) = C 0 0 8 by omega, show max 0 ((k : Int) - C 0 0 6) - C 0 0 8 = (k : Int) - C 0 0 6 - C 0 0 8 by omega, show max 0 (((k + 1 : Nat) : Int) - C 0 0 6) - C 0 0 8 = (k : Int) - C 0 0 6 - C 0 0 8 + 1 by omega, Int.add_mul, Int.one_mul]
        omega
theorem Sim.hours (h : Sim n C M) {j : Nat} (hj : j < n 8) : mCost M j = yHours C j := by
  have r := h.1.2.2.1.1
  have hw := yWait_R h.1.2.2.1 hj
  rw [h.cost hj]
  unfold yCharge yHours yPaid
  split
  · rfl
  · rw [yRS_eq (by omega) (by omega), show (((yWait C j).toNat : Nat) : Int) = yWait C j by omega]
theorem Sim.serve (h : Sim n C M) {d j : Nat} (hd : d < n 7) (hj : j < n 8) : mServe M d j ↔ yServe C d j := by
  have a := h.2.2.2.1.1 d hd
  have b := (h.2.2.2.2.1.1 j hj).2.1
  unfold mServe yServe
  rw [a.1, b, a.2]
theorem Sim.come (h : Sim n C M) {i j : Nat} (hi : i < n 5) (hj : j < n 8) : mCome M j i ↔ yTake C i j := by
  have a := h.2.2.1.1 i hi
  have b := (h.2.2.2.2.1.1 j hj).2.1
  have c := (h.1.2.2.2.2 j hj).1
  unfold mCome yTake
  rw [a.1, a.2.1, a.2.2, b]
  omega
theorem Sim.sum (h : Sim n C M) : mSum M (n 5) = ySum C (n 5) := by
  suffices ∀ k, k ≤ n 5 → mSum M k = ySum C k from this _ (Nat.le_refl _)
  intro k
  induction k with
  | zero => exact fun _ => rfl
  | succ k ih =>
    intro hk
    show mSum M k + M 3 0 k = ySum C k + (if 0 ≤ yLane C (k : Int) then C 5 (yLane C (k : Int)).toNat 4 else 0)
    rw [ih (by omega), (h.2.2.1.1 k (by omega)).2.2, yLane_W h.1.1 (by omega) (by omega), if_pos (by omega), Int.toNat_natCast]
theorem Sim.next (h : Sim n C M) : mNext M (n 8) = yNext C (n 8) := by
  suffices ∀ k, k ≤ n 8 → mNext M k = yNext C k ∧ yNext C k < (k : Int) from (this _ (Nat.le_refl _)).1
  intro k
  induction k with
  | zero => exact fun _ => ⟨rfl, show (-1 : Int) < 0 by decide⟩
  | succ k ih =>
    intro hk
    obtain ⟨e, hlt⟩ := ih (by omega)
    have a := h.2.2.2.2.1.1 k (by omega)
    have e2 : (mNext M k < 0 ∨ M 9 0 k < M 9 0 (mNext M k).toNat) ↔ (yNext C k < 0 ∨ C 8 k 1 < C 8 (yNext C k).toNat 1) := by
      rw [e, a.1]
      by_cases q : yNext C k < 0
      · exact ⟨fun _ => Or.inl q, fun _ => Or.inl q⟩
      · rw [(h.2.2.2.2.1.1 (yNext C k).toNat (by omega)).1]
    simp only [mNext, yNext, a.2.2.2.1]
    constructor
    · by_cases q : C 8 k 4 = 98 ∧ (yNext C k < 0 ∨ C 8 k 1 < C 8 (yNext C k).toNat 1)
      · rw [if_pos q, if_pos ⟨q.1, e2.mpr q.2⟩]
      · rw [if_neg q, if_neg (fun z => q ⟨z.1, e2.mp z.2⟩), e]
    · split <;> omega
theorem Sim.free (h : Sim n C M) {j : Nat} (hj : j < n 8) : mFree M j (n 7) = yFree C j (n 7) := by
  suffices ∀ k, k ≤ n 7 → mFree M j k = yFree C j k from this _ (Nat.le_refl _)
  intro k
  induction k with
  | zero => exact fun _ => rfl
  | succ k ih =>
    intro hk
    simp only [mFree, yFree]
    rw [ih (by omega)]
    split
    · rfl
    · have e := h.serve (d := k) (by omega) hj
      by_cases q : mServe M k j
      · rw [if_pos q, zB_t (e.mp q), if_pos rfl]
      · rw [if_neg q, zB_f (fun z => q (e.mpr z)), if_neg (by decide)]
theorem Sim.used (h : Sim n C M) : mUsed M (n 7) = yUsed C (n 7) := by
  suffices ∀ k, k ≤ n 7 → mUsed M k = yUsed C k from this _ (Nat.le_refl _)
  intro k
  induction k with
  | zero => exact fun _ => rfl
  | succ k ih =>
    intro hk
    have a := (h.2.2.2.1.1 k (by omega)).2
    simp only [mUsed, yUsed]
    rw [ih (by omega)]
    by_cases q : C 7 k 1 = 0
    · rw [if_pos q, if_pos (a.mpr q)]
    · rw [if_neg q, if_neg (fun z => q (a.mp z))]
theorem Sim.ms (h : Sim n C M) : mMS M (n 8) = yMS C (n 8) ∧ mMN M (n 8) = yMN C (n 8) := by
  suffices ∀ k, k ≤ n 8 → mMS M k = yMS C k ∧ mMN M k = yMN C k from this _ (Nat.le_refl _)
  intro k
  induction k with
  | zero => exact fun _ => ⟨rfl, rfl⟩
  | succ k ih =>
    intro hk
    obtain ⟨e1, e2⟩ := ih (by omega)
    have a := (h.2.2.2.2.1.1 k (by omega)).2.2.2.1
    simp only [mMS, mMN, yMS, yMN]
    rw [e1, e2, a, h.wait (by omega)]
    by_cases q : C 8 k 4 = 98 ∨ C 8 k 4 = 110
    · rw [if_pos q, if_pos q, if_neg (by omega), if_neg (by omega)]
      exact ⟨rfl, rfl⟩
    · rw [if_neg q, if_neg q, if_pos (by omega), if_pos (by omega)]
      exact ⟨rfl, rfl⟩
theorem Sim.ahead (h : Sim n C M) {t : Int} (h0 : 0 ≤ t) (h1 : t < (n 8 : Int)) (h7 : 0 ≤ C 8 t.toNat 7) : mSlot M t / 3 = C 8 t.toNat 7 ∧ mAhead M t = yBefore C (C 8 t.toNat 7).toNat t.toNat := by
  have p := h.pl h0 h1 h7
  have e := h.sl h0 h1 h7
  have e1 : mSlot M t / 3 = C 8 t.toNat 7 := by omega
  refine ⟨e1, ?_⟩
  unfold mAhead yBefore
  rw [e1, (h.2.2.1.1 _ (by omega)).2.2, e]
  omega
end SIM
