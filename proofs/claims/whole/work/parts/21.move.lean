/-! One move of the search: the class's and the model's. -/
theorem yMove_of {n : Nat → Nat} {C : ts_St} (hW : cW n C) {a b : Int} (ha : 0 ≤ a ∧ a < (n 5 : Int)) (hb : 0 ≤ b ∧ b < (n 5 : Int)) : yMove C a b = if 0 ≤ yExit C a.toNat 0 then yBring (yTakeOut C a.toNat) b.toNat (yExit C a.toNat 0).toNat else C := by
  unfold yMove
  rw [yLane_W hW ha.1 ha.2, yLane_W hW hb.1 hb.2]
  by_cases q : 0 ≤ yExit C a.toNat 0
  · rw [if_pos ⟨ha.1, hb.1, q⟩, if_pos q]
  · rw [if_neg (fun z => q z.2.2), if_neg q]
theorem yAllow_of {n : Nat → Nat} {C : ts_St} (hW : cW n C) {a b : Int} (ha : 0 ≤ a ∧ a < (n 5 : Int)) (hb : 0 ≤ b ∧ b < (n 5 : Int)) : yAllow C a b ↔ (¬ a = b ∧ 0 ≤ yExit C a.toNat 0 ∧ yTake C b.toNat (yExit C a.toNat 0).toNat) := by
  unfold yAllow
  rw [yLane_W hW ha.1 ha.2, yLane_W hW hb.1 hb.2]
  exact ⟨fun q => ⟨q.1, q.2.2.2⟩, fun q => ⟨q.1, ha.1, hb.1, q.2⟩⟩
/-- what a move does, place by place -/
theorem yMove_at {n : Nat → Nat} {C : ts_St} (hW : cW n C) (hJ : cJ n C) {a b : Int} (ha : 0 ≤ a ∧ a < (n 5 : Int)) (hb : 0 ≤ b ∧ b < (n 5 : Int)) (h : yAllow C a b) : ∃ j : Nat, j < n 8 ∧ yExit C a.toNat 0 = (j : Int) ∧ C 8 j 7 = a ∧ C 8 j 8 = C 5 a.toNat 4 - 1 ∧ 1 ≤ C 5 a.toNat 4 ∧ C 6 a.toNat (C 5 a.toNat 4 - 1).toNat = (j : Int) ∧ yTake C b.toNat j ∧ yMove C a b = yBring (yTakeOut C a.toNat) b.toNat j
    ∧ (∀ i, yMove C a b 5 i 4 = if i = a.toNat then C 5 i 4 - 1 else if i = b.toNat then C 5 i 4 + 1 else C 5 i 4) ∧ (∀ i k, ¬ k = 4 → yMove C a b 5 i k = C 5 i k) ∧ (∀ i k, yMove C a b 6 i k = if i = b.toNat ∧ k = (C 5 b.toNat 4).toNat then (j : Int) else C 6 i k)
    ∧ (∀ x, yMove C a b 8 x 7 = if x = j then b else C 8 x 7) ∧ (∀ x, yMove C a b 8 x 8 = if x = j then C 5 b.toNat 4 else C 8 x 8) ∧ (∀ x k, ¬ k = 7 → ¬ k = 8 → yMove C a b 8 x k = C 8 x k) ∧ ∀ κ i k, ¬ (κ = 5 ∨ κ = 6 ∨ κ = 8) → yMove C a b κ i k = C κ i k := by
  obtain ⟨hab, hx0, ht⟩ := (yAllow_of hW ha hb).mp h
  have h1 : 1 ≤ C 5 a.toNat 4 := by
    have := yExit_in hx0
    omega
  obtain ⟨e, e0, e1, e2, e3⟩ := yExit_0 hJ (a := a.toNat) (by omega) h1
  obtain ⟨j, hj⟩ := Int.eq_ofNat_of_zero_le e0
  rw [hj, Int.toNat_natCast] at e2 e3
  have hb4 := (hJ.1 b.toNat (by omega)).1
  have hcb := ht.1
  have hT : yTakeOut C a.toNat = up3 (up3 C 5 a.toNat 4 (C 5 a.toNat 4 - 1)) 8 j 7 (-1) := by
    rw [yTakeOut_t e0, hj, Int.toNat_natCast]
  have hTb : yTakeOut C a.toNat 5 b.toNat 4 = C 5 b.toNat 4 := by
    rw [hT, up3_n (by omega), up3_n (by omega)]
  have hM : yMove C a b = yBring (yTakeOut C a.toNat) b.toNat j := by
    rw [yMove_of hW ha hb, if_pos e0, hj, Int.toNat_natCast]
  have hN : yMove C a b = yIn (yTakeOut C a.toNat) b.toNat j := by
    rw [hM, yBring_t (by rw [hTb]; omega)]
  rw [hj, Int.toNat_natCast] at ht
  refine ⟨j, by omega, hj, by omega, e3, h1, by rw [← e, hj], ht, hM, fun i => ?_, fun i k q => ?_, fun i k => ?_, fun x => ?_, fun x => ?_, fun x k q1 q2 => ?_, fun κ i k q => ?_⟩
  · rw [hN]
    unfold yIn
    rw [hTb]
    by_cases q : i = b.toNat
    · rw [q, up3_s, if_neg (by omega), if_pos rfl]
    · rw [up3_n (by omega), up3_n (by omega), up3_n (by omega), up3_n (by omega), hT, up3_n (by omega), if_neg q]
      by_cases q2 : i = a.toNat
      · rw [q2, up3_s, if_pos rfl]
      · rw [up3_n (by omega), if_neg q2]
  · rw [hN]
    unfold yIn
    rw [up3_n (by omega), up3_n (by omega), up3_n (by omega), up3_n (by omega), hT, up3_n (by omega), up3_n (by omega)]
  · rw [hN]
    unfold yIn
    rw [hTb, up3_n (by omega), up3_n (by omega), up3_n (by omega)]
    by_cases q : i = b.toNat ∧ k = (C 5 b.toNat 4).toNat
    · rw [if_pos q, q.1, q.2, up3_s]
    · rw [if_neg q, up3_n (by omega), hT, up3_n (by omega), up3_n (by omega)]
  · rw [hN]
    unfold yIn
    rw [up3_n (by omega), up3_n (by omega)]
    by_cases q : x = j
    · rw [q, up3_s, if_pos rfl]
      omega
    · rw [up3_n (by omega), if_neg q, up3_n (by omega), hT, up3_n (by omega), up3_n (by omega)]
  · rw [hN]
    unfold yIn
    rw [hTb, up3_n (by omega)]
    by_cases q : x = j
    · rw [q, up3_s, if_pos rfl]
    · rw [up3_n (by omega), if_neg q, up3_n (by omega), up3_n (by omega), hT, up3_n (by omega), up3_n (by omega)]
  · rw [hN]
    unfold yIn
    rw [up3_n (by omega), up3_n (by omega), up3_n (by omega), up3_n (by omega), hT, up3_n (by omega), up3_n (by omega)]
  · rw [hN]
    unfold yIn
    rw [up3_n (by omega), up3_n (by omega), up3_n (by omega), up3_n (by omega), hT, up3_n (by omega), up3_n (by omega)]
theorem yMove_J {n : Nat → Nat} {C : ts_St} (hW : cW n C) (hJ : cJ n C) {a b : Int} (ha : 0 ≤ a ∧ a < (n 5 : Int)) (hb : 0 ≤ b ∧ b < (n 5 : Int)) (h : yAllow C a b) : cJ n (yMove C a b) := by
  obtain ⟨j, hj, he, h7, h8, h1, h6, ht, hM, -⟩ := yMove_at hW hJ ha hb h
  have hab := ((yAllow_of hW ha hb).mp h).1
  rw [hM]
  obtain ⟨k1, k2⟩ := cJ_take hJ (a := a.toNat) (by omega) h1
  rw [he, Int.toNat_natCast] at k2
  have hT : yTakeOut C a.toNat = up3 (up3 C 5 a.toNat 4 (C 5 a.toNat 4 - 1)) 8 j 7 (-1) := by
    rw [yTakeOut_t (by omega), he, Int.toNat_natCast]
  refine cJ_bring k1 (by omega) hj (by omega) ?_
  rw [hT, up3_n (by omega), up3_n (by omega), up3_n (by omega), up3_n (by omega)]
  exact ht.1
/-- where a search may begin, on the class's side -/
def cIv (n : Nat → Nat) (C Z : ts_St) (t : Nat) : Prop := cW n C ∧ cR n C ∧ cJ n C ∧ (∀ x : Nat, 0 ≤ Z 15 0 x ∧ Z 15 0 x ≤ 3) ∧ t < n 8 ∧ 0 ≤ C 8 t 7
theorem yV_R {n : Nat → Nat} {C Z : ts_St} (hW : cW n C) (hR : cR n C) (hJ : cJ n C) (hZ : ∀ x : Nat, 0 ≤ Z 15 0 x ∧ Z 15 0 x ≤ 3) : mR (yV n C Z) := by
  have hl := hW.lim
  have h1 := hR.1
  refine ⟨⟨?_, ?_, ?_, ?_, ?_, ?_, ?_, ?_, ?_, ?_⟩, fun l => ?_, fun t => ?_, fun l => ?_⟩
  · show 0 ≤ (n 5 : Int) ∧ (n 5 : Int) ≤ 4
    omega
  · show 0 ≤ (n 7 : Int) ∧ (n 7 : Int) ≤ 4
    omega
  · show 0 ≤ (n 8 : Int) ∧ (n 8 : Int) ≤ 40
    omega
  · exact h1.1
  · exact h1.2.1
  · exact h1.2.2.1
  · exact h1.2.2.2.1
  · exact h1.2.2.2.2.1
  · exact h1.2.2.2.2.2.1
  · exact h1.2.2.2.2.2.2
  · by_cases q : l < n 5
    · rw [yV_3 q]
      have := (hJ.1 l q).1
      omega
    · rw [yV_3n q]
      omega
  · by_cases q : t < n 8
    · have h2 := hR.2 t q
      simp only [yV_0, yVk, if_pos q]
      exact ⟨h2.1, h2.2.2.2.2.1, h2.2.2.2.2.2, by omega, h2.2.2.2.1, h2.2.1, hZ t⟩
    · simp only [yV_0, yVk, if_neg q]
      exact ⟨by omega, by omega, by omega, by omega, by omega, by omega, hZ t⟩
  · by_cases q : l < n 5
    · rw [yV_1 q]
      have := (hJ.1 l q).1
      omega
    · rw [yV_1n q]
      omega
theorem yV_Lv {n : Nat → Nat} {C Z : ts_St} (hW : cW n C) (hJ : cJ n C) : mLv (yV n C Z) := by
  intro l j q
  have hl := hW.lim
  by_cases h : l < n 5
  · rw [yV_3 h] at q
    have h1 := hJ.1 l h
    have h2 := h1.2 j q
    rw [yV_4s _ _ _ (by omega)]
    omega
  · rw [yV_3n h] at q
    omega
theorem yV_slot {n : Nat → Nat} {C Z : ts_St} (hJ : cJ n C) {t : Nat} (ht : t < n 8) (h : 0 ≤ C 8 t 7) : mSlot (yV n C Z) (t : Int) = 3 * C 8 t 7 + C 8 t 8 := by
  obtain ⟨h1, h2, h3, h4⟩ := (hJ.2 t ht).2 h
  have h5 := (hJ.1 (C 8 t 7).toNat (by omega)).1
  have h6 : 0 ≤ mSlot (yV n C Z) (t : Int) := by
    refine mSlot_of (l := (C 8 t 7).toNat) (j := (C 8 t 8).toNat) (by rw [yV_lanes]; omega) (by rw [yV_lanes]; omega) ?_ ?_
    · rw [yV_3 (by omega)]
      omega
    · rw [yV_4s _ _ _ (by omega)]
      exact h4
  obtain ⟨l, j, g1, g2, g3, g4⟩ := mSlot_in h6
  rw [yV_lanes] at g1
  rw [yV_3 (by omega)] at g2
  have g5 := hJ.1 l (by omega)
  rw [yV_4s _ _ _ (by omega)] at g4
  have g6 := g5.2 j g2
  rw [g4, Int.toNat_natCast] at g6
  omega
theorem yV_none {n : Nat → Nat} {C Z : ts_St} (hJ : cJ n C) {t : Nat} (ht : t < n 8) (h : C 8 t 7 < 0) : mSlot (yV n C Z) (t : Int) < 0 := by
  refine Int.not_le.mp fun q => ?_
  obtain ⟨l, j, g1, g2, g3, g4⟩ := mSlot_in q
  rw [yV_lanes] at g1
  rw [yV_3 (by omega)] at g2
  have g5 := hJ.1 l (by omega)
  rw [yV_4s _ _ _ (by omega)] at g4
  have g6 := g5.2 j g2
  rw [g4, Int.toNat_natCast] at g6
  omega
theorem cIv.m {n : Nat → Nat} {C Z : ts_St} {t : Nat} (h : cIv n C Z t) : mIv (yV n C Z) (t : Int) := by
  obtain ⟨hW, hR, hJ, hZ, ht, h7⟩ := h
  refine ⟨yV_R hW hR hJ hZ, yV_Lv hW hJ, ?_⟩
  rw [yV_slot hJ ht h7]
  have := (hJ.2 t ht).2 h7
  omega
theorem yV_ahead {n : Nat → Nat} {C Z : ts_St} (hJ : cJ n C) {t : Nat} (ht : t < n 8) (h : 0 ≤ C 8 t 7) : mAhead (yV n C Z) (t : Int) = yBefore C (C 8 t 7).toNat t := by
  obtain ⟨h1, h2, h3, h4⟩ := (hJ.2 t ht).2 h
  have h5 := (hJ.1 (C 8 t 7).toNat (by omega)).1
  unfold mAhead yBefore
  rw [yV_slot hJ ht h, show ((3 * C 8 t 7 + C 8 t 8) / 3).toNat = (C 8 t 7).toNat by omega, show (3 * C 8 t 7 + C 8 t 8) % 3 = C 8 t 8 by omega, yV_3 (by omega)]
theorem yV_top {n : Nat → Nat} {C Z : ts_St} (hJ : cJ n C) {a : Int} (ha : 0 ≤ a ∧ a < (n 5 : Int)) (h1 : 1 ≤ C 5 a.toNat 4) : mTop (yV n C Z) a = yExit C a.toNat 0 := by
  have h2 := (hJ.1 a.toNat (by omega)).1
  unfold mTop
  rw [yV_3 (by omega), show (3 * a + C 5 a.toNat 4 - 1).toNat = 3 * a.toNat + (C 5 a.toNat 4 - 1).toNat by omega, yV_4s _ _ _ (by omega), (yExit_0 hJ (by omega) h1).1]
theorem yV_come {n : Nat → Nat} {C Z : ts_St} (hJ : cJ n C) {j b : Nat} (hj : j < n 8) (hb : b < n 5) : mCome (yV n C Z) j b ↔ yTake C b j := by
  unfold mCome yTake
  rw [yV_3 hb, yV_1 hb, yV_2 hb, yV_10 hj]
  have := (hJ.2 j hj).1
  omega
theorem yV_ok {n : Nat → Nat} {C Z : ts_St} {t : Nat} (h : cIv n C Z t) {a b : Int} (ha : 0 ≤ a ∧ a < (n 5 : Int)) (hb : 0 ≤ b ∧ b < (n 5 : Int)) (h0 : ¬ yBefore C (C 8 t 7).toNat t = 0) : yAllow C a b ↔ mOk (yV n C Z) (t : Int) a b := by
  obtain ⟨hW, hR, hJ, hZ, ht, h7⟩ := h
  rw [yAllow_of hW ha hb]
  unfold mOk
  rw [yV_3 (by omega)]
  have hca := (hJ.1 a.toNat (by omega)).1
  by_cases h1 : 1 ≤ C 5 a.toNat 4
  · obtain ⟨e, e0, e1, e2, e3⟩ := yExit_0 hJ (a := a.toNat) (by omega) h1
    rw [yV_top hJ ha h1, yV_come hJ (by omega) (by omega)]
    refine ⟨fun q => ⟨q.1, by omega, fun z => h0 ?_, q.2.2⟩, fun q => ⟨q.1, e0, q.2.2.2⟩⟩
    rw [z, Int.toNat_natCast] at e2 e3
    unfold yBefore
    rw [e2, Int.toNat_natCast]
    omega
  · rw [yExit_none hJ (by omega) h1]
    exact ⟨fun q => absurd q.2.1 (by decide), fun q => absurd q.2.1 (by omega)⟩
theorem yV_mv {n : Nat → Nat} {C Z : ts_St} (hW : cW n C) (hJ : cJ n C) {a b : Int} (ha : 0 ≤ a ∧ a < (n 5 : Int)) (hb : 0 ≤ b ∧ b < (n 5 : Int)) (h : yAllow C a b) : mEq (mMv (yV n C Z) a b) (yV n (yMove C a b) Z) := by
  obtain ⟨j, hj, he, h7, h8, h1, h6, ht, hM, m54, m5, m6, m87, m88, m8, mk⟩ := yMove_at hW hJ ha hb h
  have hab := ((yAllow_of hW ha hb).mp h).1
  have hca := (hJ.1 a.toNat (by omega)).1
  have hcb := (hJ.1 b.toNat (by omega)).1
  refine ⟨fun κ i k q => ?_, fun l x q1 q2 => ?_⟩
  · by_cases q3 : κ = 3
    · subst q3
      by_cases qi : i = 0
      · subst qi
        rw [mMv_3 hab ha.1 hb.1]
        by_cases hk : k < n 5
        · rw [yV_3 hk, yV_3 hk, m54]
        · rw [yV_3n hk, yV_3n hk, if_neg (by omega), if_neg (by omega)]
      · unfold mMv mComes
        rw [up3_n (by omega), up3_n (by omega), up3_n (by omega)]
        unfold yV
        rw [if_neg qi, if_neg qi]
    · rw [mMv_n (by omega)]
      unfold yV
      by_cases qi : i = 0
      · rw [if_pos qi, if_pos qi]
        match κ with
        | 4 => exact absurd rfl q
        | 3 => exact absurd rfl q3
        | 0 => simp only [yVk, mk 0 _ _ (by decide)]
        | 1 => simp only [yVk, m5 _ 1 (by decide)]
        | 2 => simp only [yVk, m5 _ 2 (by decide)]
        | 5 => rfl
        | 6 => simp only [yVk, mk 7 _ _ (by decide)]
        | 7 => rfl
        | 8 => rfl
        | 9 => simp only [yVk, m8 _ 1 (by decide) (by decide)]
        | 10 => simp only [yVk, m8 _ 2 (by decide) (by decide)]
        | 11 => simp only [yVk, m8 _ 3 (by decide) (by decide)]
        | 12 => simp only [yVk, m8 _ 4 (by decide) (by decide)]
        | 13 => simp only [yVk, m8 _ 5 (by decide) (by decide)]
        | 14 => simp only [yVk, m8 _ 6 (by decide) (by decide)]
        | z + 15 => rfl
      · rw [if_neg qi, if_neg qi]
  · have t1 := ht.1
    rw [mMv_4 hab ha.1 hb.1, yV_4s _ _ _ q2, yV_4s _ _ _ q2, m6, yV_3 (by omega), yV_top hJ ha h1, he]
    rw [mMv_3 hab ha.1 hb.1] at q1
    by_cases z : l = b.toNat ∧ x = (C 5 b.toNat 4).toNat
    · rw [if_pos z, if_pos (by omega)]
    · rw [if_neg z, if_neg (by omega)]
/-- moved there and back -/
theorem yBack {n : Nat → Nat} {C S2 : ts_St} (hW : cW n C) (hJ : cJ n C) {a b : Int} (ha : 0 ≤ a ∧ a < (n 5 : Int)) (hb : 0 ≤ b ∧ b < (n 5 : Int)) (h : yAllow C a b) (hE : cEq n (yMove C a b) S2) : cEq n C (yMove S2 b a) := by
  obtain ⟨j, hj, he, h7, h8, h1, h6, ht, hM, m54, m5, m6, m87, m88, m8, mk⟩ := yMove_at hW hJ ha hb h
  have hab := ((yAllow_of hW ha hb).mp h).1
  have hca := (hJ.1 a.toNat (by omega)).1
  have hcb := (hJ.1 b.toNat (by omega)).1
  have hJ2 : cJ n S2 := hE.J (yMove_J hW hJ ha hb h)
  have hW2 : cW n S2 := hE.W (yMove_W hW)
  have t1 := ht.1
  have c5 : ∀ i k, S2 5 i k = yMove C a b 5 i k := fun i k => hE.1 5 i k (by decide)
  have c8 : ∀ i k, S2 8 i k = yMove C a b 8 i k := fun i k => hE.1 8 i k (by decide)
  have hb1 : S2 5 b.toNat 4 = C 5 b.toNat 4 + 1 := by rw [c5, m54, if_neg (by omega), if_pos rfl]
  have ha1 : S2 5 a.toNat 4 = C 5 a.toNat 4 - 1 := by rw [c5, m54, if_pos rfl]
  have hx : yExit S2 b.toNat 0 = (j : Int) := by
    rw [(yExit_0 hJ2 (a := b.toNat) (by omega) (by omega)).1, hb1, show (C 5 b.toNat 4 + 1 - 1).toNat = (C 5 b.toNat 4).toNat by omega, hE.2 b.toNat (C 5 b.toNat 4).toNat (by omega) (by rw [m54, if_neg (by omega), if_pos rfl]; omega) (by omega), m6, if_pos ⟨rfl, rfl⟩]
  have hT : yTakeOut S2 b.toNat = up3 (up3 S2 5 b.toNat 4 (C 5 b.toNat 4)) 8 j 7 (-1) := by
    rw [yTakeOut_t (by omega), hx, Int.toNat_natCast, hb1]
    congr 2
    omega
  have hTa : yTakeOut S2 b.toNat 5 a.toNat 4 = C 5 a.toNat 4 - 1 := by
    rw [hT, up3_n (by omega), up3_n (by omega), ha1]
  have hN : yMove S2 b a = yIn (yTakeOut S2 b.toNat) a.toNat j := by
    rw [yMove_of hW2 hb ha, if_pos (by omega), hx, Int.toNat_natCast, yBring_t (by rw [hTa]; omega)]
  rw [hN]
  refine ⟨fun κ i k q => ?_, fun i k q1 q2 q3 => ?_⟩
  · unfold yIn
    rw [hTa, show C 5 a.toNat 4 - 1 + 1 = C 5 a.toNat 4 by omega]
    by_cases z1 : κ = 5 ∧ i = a.toNat ∧ k = 4
    · obtain ⟨rfl, rfl, rfl⟩ := z1
      rw [up3_s]
    · rw [up3_n z1]
      by_cases z2 : κ = 8 ∧ i = j ∧ k = 8
      · obtain ⟨rfl, rfl, rfl⟩ := z2
        rw [up3_s, h8]
      · rw [up3_n z2]
        by_cases z3 : κ = 8 ∧ i = j ∧ k = 7
        · obtain ⟨rfl, rfl, rfl⟩ := z3
          rw [up3_s, h7]
          omega
        · rw [up3_n z3, up3_n (by omega), hT, up3_n z3]
          by_cases z4 : κ = 5 ∧ i = b.toNat ∧ k = 4
          · obtain ⟨rfl, rfl, rfl⟩ := z4
            rw [up3_s]
          · rw [up3_n z4, hE.1 κ i k q]
            by_cases y1 : κ = 5
            · subst y1
              by_cases y2 : k = 4
              · subst y2
                rw [m54, if_neg (by omega), if_neg (by omega)]
              · rw [m5 i k y2]
            · by_cases y3 : κ = 8
              · subst y3
                by_cases y4 : k = 7
                · subst y4
                  rw [m87, if_neg (by omega)]
                · by_cases y5 : k = 8
                  · subst y5
                    rw [m88, if_neg (by omega)]
                  · rw [m8 i k y4 y5]
              · exact mk κ i k (by omega)
  · unfold yIn
    rw [up3_n (by omega), up3_n (by omega), up3_n (by omega), hTa]
    by_cases z : i = a.toNat ∧ k = (C 5 a.toNat 4 - 1).toNat
    · rw [z.1, z.2, up3_s, h6]
    · rw [up3_n (by omega), hT, up3_n (by omega), up3_n (by omega)]
      have hlt : (k : Int) < yMove C a b 5 i 4 := by
        rw [m54]
        split
        · rename_i y
          subst y
          omega
        · split
          · omega
          · exact q2
      rw [hE.2 i k q1 hlt q3, m6, if_neg]
      rintro ⟨y1, y2⟩
      subst y1
      omega
