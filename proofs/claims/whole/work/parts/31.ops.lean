/-! Call by call: the same refusal, the same answer, side by side behind it. -/
section OPS
variable {n : Nat → Nat} {C M : ts_St}
theorem Sim.reach (h : Sim n C M) {t : Int} (h0 : 0 ≤ t) (h1 : t < (n 8 : Int)) : mReach M t ↔ (0 ≤ C 8 t.toNat 7 ∧ yBefore C (C 8 t.toNat 7).toNat t.toNat = 0) := by
  by_cases q : 0 ≤ C 8 t.toNat 7
  · have e := h.sl h0 h1 q
    have p := h.pl h0 h1 q
    unfold mReach
    rw [(h.ahead h0 h1 q).2]
    exact ⟨fun z => ⟨q, z.2⟩, fun z => ⟨by omega, z.2⟩⟩
  · have e := h.none h0 h1 (by omega)
    exact ⟨fun z => by have := z.1; omega, fun z => absurd z.1 q⟩
theorem Sim.oNotCome (h : Sim n C M) (t : Int) : kNotCome M t = if ¬ (0 ≤ t ∧ t < (n 8 : Int)) then 1 else if C 8 t.toNat 4 = 98 ∨ C 8 t.toNat 4 = 110 then 2 else 0 := by
  have a : 0 ≤ t → t < (n 8 : Int) → M 12 0 t.toNat = C 8 t.toNat 4 := fun q1 q2 => (h.2.2.2.2.1.1 t.toNat (by omega)).2.2.2.1
  unfold kNotCome
  rw [h.2.1.1.2.2]
  (repeat' split) <;> first | rfl | (exfalso; omega)
theorem Sim.oElse (h : Sim n C M) (t : Int) : kElse M t = if ¬ (0 ≤ t ∧ t < (n 8 : Int)) then 1 else if C 8 t.toNat 7 < 0 then 2 else 0 := by
  have a : 0 ≤ t → t < (n 8 : Int) → M 12 0 t.toNat = C 8 t.toNat 4 := fun q1 q2 => (h.2.2.2.2.1.1 t.toNat (by omega)).2.2.2.1
  have b : 0 ≤ t → t < (n 8 : Int) → (C 8 t.toNat 4 = 121 ↔ 0 ≤ C 8 t.toNat 7) := fun q1 q2 => (h.2.2.2.2.2.1 t.toNat (by omega)).1
  unfold kElse
  rw [h.2.1.1.2.2]
  (repeat' split) <;> first | rfl | (exfalso; omega)
theorem Sim.oNone (h : Sim n C M) (t : Int) : kNone M t = if ¬ (0 ≤ t ∧ t < (n 8 : Int)) then 1 else 0 := by
  unfold kNone
  rw [h.2.1.1.2.2]
theorem Sim.oAddLane (h : Sim n C M) (a : Int) : kAddLane M a = if ¬ (1 ≤ a ∧ a ≤ 3) then 1 else if ¬ n 5 < 4 then 2 else 0 := by
  have := h.1.1.lim
  unfold kAddLane
  rw [h.2.1.1.1]
  (repeat' split) <;> first | rfl | (exfalso; omega)
theorem Sim.oAddDoor (h : Sim n C M) (a : Int) : kAddDoor M a = if ¬ (a = 100 ∨ a = 99 ∨ a = 98) then 1 else if ¬ n 7 < 4 then 2 else 0 := by
  have := h.1.1.lim
  unfold kAddDoor
  rw [h.2.1.1.2.1]
  (repeat' split) <;> first | rfl | (exfalso; omega)
theorem Sim.oBook (h : Sim n C M) (a b d : Int) : kBook M a b d = if ¬ ((C 0 0 10 ≤ a ∧ a ≤ 999) ∧ (b = 100 ∨ b = 99) ∧ 1 ≤ d ∧ d ≤ 9) then 1 else if ¬ n 8 < 40 then 2 else 0 := by
  have := h.1.1.lim
  unfold kBook
  rw [h.2.1.1.2.2, h.2.1.2.2.2.2.2.2.1]
  (repeat' split) <;> first | rfl | (exfalso; omega)
theorem Sim.oArrive (h : Sim n C M) (t y : Int) : (¬ (0 ≤ t ∧ t < (n 8 : Int)) → kArrive M t y = 1) ∧ ((0 ≤ t ∧ t < (n 8 : Int)) → ¬ (0 ≤ y ∧ y < (n 5 : Int)) → kArrive M t y = 2) ∧ ((0 ≤ t ∧ t < (n 8 : Int)) → (0 ≤ y ∧ y < (n 5 : Int)) → (¬ C 8 t.toNat 4 = 98 ∨ 6 ≤ ySum C (n 5)) → ySum C (n 5) ≤ 6 → kArrive M t y = 3)
    ∧ ((0 ≤ t ∧ t < (n 8 : Int)) → (0 ≤ y ∧ y < (n 5 : Int)) → C 8 t.toNat 4 = 98 → ySum C (n 5) < 6 → (yTake C y.toNat t.toNat → kArrive M t y = 0) ∧ (¬ yTake C y.toNat t.toNat → kArrive M t y = 4)) := by
  unfold kArrive
  rw [h.2.1.1.2.2, h.2.1.1.1, Int.toNat_natCast, h.sum]
  refine ⟨fun q => if_pos q, fun q1 q2 => ?_, fun q1 q2 q3 q4 => ?_, fun q1 q2 q3 q4 => ?_⟩
  · rw [if_neg (fun z => z q1), if_pos q2]
  · rw [if_neg (fun z => z q1), if_neg (fun z => z q2), (h.2.2.2.2.1.1 t.toNat (by omega)).2.2.2.1, if_pos (by omega)]
  · rw [if_neg (fun z => z q1), if_neg (fun z => z q2), (h.2.2.2.2.1.1 t.toNat (by omega)).2.2.2.1, if_neg (by omega)]
    have e := h.come (i := y.toNat) (j := t.toNat) (by omega) (by omega)
    exact ⟨fun z => if_pos (e.mpr z), fun z => if_neg (fun z2 => z (e.mp z2))⟩
theorem Sim.oShift (h : Sim n C M) (t y : Int) : (¬ (0 ≤ t ∧ t < (n 8 : Int)) → kShift M t y = 1) ∧ ((0 ≤ t ∧ t < (n 8 : Int)) → ¬ (0 ≤ y ∧ y < (n 5 : Int)) → kShift M t y = 2) ∧ ((0 ≤ t ∧ t < (n 8 : Int)) → (0 ≤ y ∧ y < (n 5 : Int)) → ¬ (0 ≤ C 8 t.toNat 7 ∧ yBefore C (C 8 t.toNat 7).toNat t.toNat = 0) → kShift M t y = 3)
    ∧ ((0 ≤ t ∧ t < (n 8 : Int)) → (0 ≤ y ∧ y < (n 5 : Int)) → (0 ≤ C 8 t.toNat 7 ∧ yBefore C (C 8 t.toNat 7).toNat t.toNat = 0) → ((¬ C 8 t.toNat 7 = y ∧ yTake C y.toNat t.toNat) → kShift M t y = 0) ∧ ((C 8 t.toNat 7 = y ∨ ¬ yTake C y.toNat t.toNat) → kShift M t y = 4)) := by
  unfold kShift
  rw [h.2.1.1.2.2, h.2.1.1.1]
  refine ⟨fun q => if_pos q, fun q1 q2 => ?_, fun q1 q2 q3 => ?_, fun q1 q2 q3 => ?_⟩
  · rw [if_neg (fun z => z q1), if_pos q2]
  · rw [if_neg (fun z => z q1), if_neg (fun z => z q2), if_pos (fun z => q3 ((h.reach q1.1 q1.2).mp z))]
  · rw [if_neg (fun z => z q1), if_neg (fun z => z q2), if_neg (fun z => z ((h.reach q1.1 q1.2).mpr q3)), (h.ahead q1.1 q1.2 q3.1).1]
    have e := h.come (i := y.toNat) (j := t.toNat) (by omega) (by omega)
    refine ⟨fun z => if_neg ?_, fun z => if_pos ?_⟩
    · rintro (z2 | z2)
      · exact z.1 z2
      · exact z2 (e.mpr z.2)
    · rcases z with z | z
      · exact Or.inl z
      · exact Or.inr (fun z2 => z (e.mp z2))
theorem Sim.oDock (h : Sim n C M) (t d : Int) : (¬ (0 ≤ t ∧ t < (n 8 : Int)) → kDock M t d = 1) ∧ ((0 ≤ t ∧ t < (n 8 : Int)) → ¬ (0 ≤ d ∧ d < (n 7 : Int)) → kDock M t d = 2) ∧ ((0 ≤ t ∧ t < (n 8 : Int)) → (0 ≤ d ∧ d < (n 7 : Int)) → ¬ (0 ≤ C 8 t.toNat 7 ∧ yBefore C (C 8 t.toNat 7).toNat t.toNat = 0) → kDock M t d = 3)
    ∧ ((0 ≤ t ∧ t < (n 8 : Int)) → (0 ≤ d ∧ d < (n 7 : Int)) → (0 ≤ C 8 t.toNat 7 ∧ yBefore C (C 8 t.toNat 7).toNat t.toNat = 0) → (yServe C d.toNat t.toNat → kDock M t d = 0) ∧ (¬ yServe C d.toNat t.toNat → kDock M t d = 4)) := by
  unfold kDock
  rw [h.2.1.1.2.2, h.2.1.1.2.1]
  refine ⟨fun q => if_pos q, fun q1 q2 => ?_, fun q1 q2 q3 => ?_, fun q1 q2 q3 => ?_⟩
  · rw [if_neg (fun z => z q1), if_pos q2]
  · rw [if_neg (fun z => z q1), if_neg (fun z => z q2), if_pos (fun z => q3 ((h.reach q1.1 q1.2).mp z))]
  · rw [if_neg (fun z => z q1), if_neg (fun z => z q2), if_neg (fun z => z ((h.reach q1.1 q1.2).mpr q3))]
    have e := h.serve (d := d.toNat) (j := t.toNat) (by omega) (by omega)
    exact ⟨fun z => if_pos (e.mpr z), fun z => if_neg (fun z2 => z (e.mp z2))⟩
theorem Sim.oLeave (h : Sim n C M) (t : Int) : kLeave M t = if ¬ (0 ≤ t ∧ t < (n 8 : Int)) then 1 else if C 8 t.toNat 9 < 0 then 2 else if C 0 0 10 < C 8 t.toNat 6 + C 8 t.toNat 3 then 3 else 0 := by
  have a : 0 ≤ t → t < (n 8 : Int) → (M 12 0 t.toNat = C 8 t.toNat 4 ∧ M 14 0 t.toNat = C 8 t.toNat 6 ∧ M 11 0 t.toNat = C 8 t.toNat 3) := fun q1 q2 => by
    have a := h.2.2.2.2.1.1 t.toNat (by omega)
    exact ⟨a.2.2.2.1, a.2.2.2.2.2, a.2.2.1⟩
  have b : 0 ≤ t → t < (n 8 : Int) → (C 8 t.toNat 4 = 119 ↔ 0 ≤ C 8 t.toNat 9) := fun q1 q2 => (h.2.2.2.2.2.1 t.toNat (by omega)).2.1
  unfold kLeave
  rw [h.2.1.1.2.2, h.2.1.2.2.2.2.2.2.1]
  (repeat' split) <;> first | rfl | (exfalso; omega)
theorem Sim.oTrailer (h : Sim n C M) (y x : Int) : kTrailer M y x = if ¬ (0 ≤ y ∧ y < (n 5 : Int)) then 1 else if yExit C y.toNat x < 0 then 2 else 0 := by
  have a : 0 ≤ y → y < (n 5 : Int) → M 3 0 y.toNat = C 5 y.toNat 4 := fun q1 q2 => (h.2.2.1.1 y.toNat (by omega)).2.2
  have b : 0 ≤ y → y < (n 5 : Int) → (0 ≤ x ∧ x < C 5 y.toNat 4) → 0 ≤ yExit C y.toNat x := fun q1 q2 q3 => by
    have c := h.1.2.2.2.1 y.toNat (by omega)
    have p := c.2 (C 5 y.toNat 4 - 1 - x).toNat (by omega)
    rw [yExit_t (by omega)]
    exact p.1
  have b2 : ¬ (0 ≤ x ∧ x < C 5 y.toNat 4) → yExit C y.toNat x = -1 := fun q => yExit_f (by omega)
  unfold kTrailer
  rw [h.2.1.1.1]
  (repeat' split) <;> first | rfl | (exfalso; omega)
theorem Sim.atExit (h : Sim n C M) {y x : Int} (hy : 0 ≤ y ∧ y < (n 5 : Int)) (hx : 0 ≤ yExit C y.toNat x) : M 4 0 (3 * y + M 3 0 y.toNat - 1 - x).toNat = yExit C y.toNat x := by
  have q := yExit_in hx
  have c := h.1.2.2.2.1 y.toNat (by omega)
  rw [(h.2.2.1.1 y.toNat (by omega)).2.2, yExit_t (by omega), show (3 * y + C 5 y.toNat 4 - 1 - x).toNat = 3 * y.toNat + (C 5 y.toNat 4 - 1 - x).toNat by omega]
  exact h.2.2.1.2.2 _ _ (by omega) (by omega) (by omega)
theorem Sim.arrive (h : Sim n C M) {t y : Int} (ht : 0 ≤ t ∧ t < (n 8 : Int)) (hy : 0 ≤ y ∧ y < (n 5 : Int)) (h98 : C 8 t.toNat 4 = 98) (hk : yTake C y.toNat t.toNat) : Sim n (yArr C y.toNat t.toNat) (gArrive M t y) ∧ mPunc (gArrive M t y) t.toNat = yPunc (yArr C y.toNat t.toNat) t.toNat := by
  have e := (h.code 0).arr (i := y.toNat) (j := t.toNat) (by omega) (by omega) h98 hk
  have e2 : Sim n (yArr C y.toNat t.toNat) (gArrive M t y) := by
    unfold gArrive
    rw [show up3 M 0 0 24 0 0 0 21 = M 0 0 21 from up3_n (by omega)] at e
    rw [show ((t.toNat : Nat) : Int) = t by omega, show ((y.toNat : Nat) : Int) = y by omega] at e
    exact e
  exact ⟨e2, e2.punc (by omega)⟩
theorem Sim.shift (h : Sim n C M) {t y : Int} (ht : 0 ≤ t ∧ t < (n 8 : Int)) (hy : 0 ≤ y ∧ y < (n 5 : Int)) (hr : 0 ≤ C 8 t.toNat 7 ∧ yBefore C (C 8 t.toNat 7).toNat t.toNat = 0) (hne : ¬ C 8 t.toNat 7 = y) (hk : yTake C y.toNat t.toNat) (hm : C 0 0 11 + 1 ≤ 100000) : Sim n (yShift C (C 8 t.toNat 7).toNat y.toNat t.toNat) (gShift M t y) := by
  have p := h.pl ht.1 ht.2 hr.1
  have e1 := (h.ahead ht.1 ht.2 hr.1).1
  have hb : C 5 (C 8 t.toNat 7).toNat 4 - 1 - C 8 t.toNat 8 = 0 := hr.2
  obtain ⟨a, ea⟩ : ∃ a, a = C 8 t.toNat 7 := ⟨_, rfl⟩
  rw [← ea] at p e1 hb hne hr ⊢
  have hx : yExit C a.toNat 0 = t := by
    rw [(yExit_0 h.1.2.2.2 (a := a.toNat) (by omega) (by omega)).1, show (C 5 a.toNat 4 - 1).toNat = (C 8 t.toNat 8).toNat by omega]
    exact p.2.2.2.2
  have hal : yAllow C a y := (yAllow_of h.1.1 (by omega) hy).mpr ⟨hne, by omega, by rw [hx]; exact hk⟩
  have h' := h.code 0
  have e := h'.mv (a := a) (b := y) (by omega) hy hal
  have top : mTop (up3 M 0 0 24 0) a = t := by
    rw [mTop_eq h'.V h'.VR.2.1 hr.1 (by rw [yV_3 (by omega)]; omega), yV_top h.1.2.2.2 (by omega) (by omega), hx]
  have eM : mMv (up3 M 0 0 24 0) a y = mComes (up3 (m0 M 0) 3 0 a.toNat (M 3 0 a.toNat - 1)) t y := by
    unfold mMv
    rw [top, show up3 M 0 0 24 0 3 0 a.toNat = M 3 0 a.toNat from up3_n (by omega)]
  have eC : yMove C a y = yBring (yTakeOut C a.toNat) y.toNat t.toNat := by
    rw [yMove_of h.1.1 (by omega) hy, hx, if_pos ht.1]
  have c11 : yMove C a y 0 0 11 = C 0 0 11 := by
    obtain ⟨j, _, _, _, _, _, _, _, _, _, _, _, _, _, _, mk⟩ := yMove_at h.1.1 h.1.2.2.2 (a := a) (b := y) (by omega) hy hal
    exact mk 0 0 11 (by decide)
  have e2 := e.moved (by rw [c11]; exact hm)
  rw [c11, eM, eC, show mComes (up3 (m0 M 0) 3 0 a.toNat (M 3 0 a.toNat - 1)) t y 0 0 22 = M 0 0 22 by rw [mComes_n (by omega), up3_n (by omega)]; exact up3_n (by omega)] at e2
  have t11 : yTakeOut C a.toNat 0 0 11 = C 0 0 11 := yTakeOut_n (by omega)
  unfold yShift gShift
  rw [e1]
  exact e2
theorem Sim.dock1 (h : Sim n C M) {t d : Int} (ht : 0 ≤ t ∧ t < (n 8 : Int)) (hd : 0 ≤ d ∧ d < (n 7 : Int)) (hr : 0 ≤ C 8 t.toNat 7 ∧ yBefore C (C 8 t.toNat 7).toNat t.toNat = 0) (hm : C 0 0 11 + 1 ≤ 100000) : Sim n (yDock C (C 8 t.toNat 7).toNat d.toNat t.toNat) (gDock M t d) := by
  have p := h.pl ht.1 ht.2 hr.1
  have e1 := (h.ahead ht.1 ht.2 hr.1).1
  have e := (h.code 0).dock (a := (C 8 t.toNat 7).toNat) (d := d.toNat) (j := t.toNat) (by omega) (by omega) (by omega) (by omega) hr.2 hm
  unfold gDock
  rw [e1]
  rw [show up3 M 0 0 24 0 3 0 (C 8 t.toNat 7).toNat = M 3 0 (C 8 t.toNat 7).toNat from up3_n (by omega), show up3 M 0 0 24 0 0 0 21 = M 0 0 21 from up3_n (by omega), show up3 M 0 0 24 0 0 0 22 = M 0 0 22 from up3_n (by omega), show ((t.toNat : Nat) : Int) = t by omega, show ((d.toNat : Nat) : Int) = d by omega] at e
  exact e
theorem Sim.leave (h : Sim n C M) {t : Int} (ht : 0 ≤ t ∧ t < (n 8 : Int)) (h9 : 0 ≤ C 8 t.toNat 9) : Sim n (yLeave C t.toNat) (gLeave M t) ∧ mCost (gLeave M t) t.toNat = yCharge (yLeave0 C t.toNat) t.toNat := by
  have e := (h.code 0).leave0 (j := t.toNat) (by omega) h9
  rw [show up3 M 0 0 24 0 15 0 t.toNat = M 15 0 t.toNat from up3_n (by omega)] at e
  have e' : Sim n (yLeave0 C t.toNat) (gLeave0 M t) := e
  have c := e'.cost (j := t.toNat) (by omega)
  have f := e'.paid (yCharge (yLeave0 C t.toNat) t.toNat)
  have y12 : yLeave0 C t.toNat 0 0 12 = C 0 0 12 := by
    unfold yLeave0
    rw [up3_n (by omega), up3_n (by omega), up3_n (by omega)]
  have g23 : gLeave0 M t 0 0 23 = M 0 0 23 := by
    unfold gLeave0
    rw [up3_n (by omega), up3_n (by omega)]
    exact up3_n (by omega)
  rw [y12, g23] at f
  have f' : Sim n (yLeave C t.toNat) (gLeave M t) := by
    unfold yLeave gLeave
    rw [c]
    exact f
  refine ⟨f', ?_⟩
  rw [f'.cost (by omega)]
  unfold yLeave
  have q : ∀ S v, yCharge (up3 S 0 0 12 v) t.toNat = yCharge S t.toNat := fun S v => by
    unfold yCharge yPaid yPunc yWait
    simp [up3]
  exact q _ _
/-- the searches: what the class's says against what the model's says -/
theorem Sim.fewest (h : Sim n C M) {t : Int} {d : Nat} (ht : 0 ≤ t ∧ t < (n 8 : Int)) (h7 : 0 ≤ C 8 t.toNat 7) : mRch d (m0 M 0) t ↔ mRch d (yV n C (m0 M 0)) t := by
  have hI : cIv n C (m0 M 0) t.toNat := ⟨h.1.1, h.1.2.2.1, h.1.2.2.2, (h.code 0).2.2.2.2.2.2, by omega, h7⟩
  have q := mRch_eq d (h.code 0).V hI.m
  rw [show ((t.toNat : Nat) : Int) = t by omega] at q
  exact q
end OPS
