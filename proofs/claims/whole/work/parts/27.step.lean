/-! The two systems stay side by side, call by call. -/
section STP
variable {n : Nat → Nat} {C M : ts_St}
theorem Sim.code (h : Sim n C M) (K : Int) : Sim n C (up3 M 0 0 24 K) := by
  obtain ⟨h1, hB, hL, hD, hA, hS⟩ := h
  refine ⟨h1, ?_, ?_, ?_, ?_, ?_⟩
  · unfold sB at hB ⊢
    simpa [up3] using hB
  · unfold sL at hL ⊢
    simpa [up3] using hL
  · unfold sD at hD ⊢
    simpa [up3] using hD
  · unfold sA at hA ⊢
    simpa [up3] using hA
  · unfold sW at hS ⊢
    simpa [up3] using hS
theorem cJ.put0 {k : Nat} {v : Int} (h : cJ n C) : cJ n (up3 C 0 0 k v) := by
  have e : ∀ κ, ¬ κ = 0 → up3 C 0 0 k v κ = C κ := fun κ q => by
    funext a b
    exact up3_n (by omega)
  unfold cJ at h ⊢
  rw [e 5 (by decide), e 6 (by decide), e 8 (by decide)]
  exact h
theorem Sim.tol (h : Sim n C M) {a : Int} (ha : 0 ≤ a ∧ a ≤ 9) : Sim n (up3 C 0 0 5 a) (up3 M 0 0 16 a) := by
  obtain ⟨⟨hW, h65, hR, hJ⟩, hB, hL, hD, hA, hS⟩ := h
  refine ⟨⟨hW.put rfl, h65, ?_, hJ.put0⟩, ?_, ?_, ?_, ?_, ?_⟩
  · unfold cR at hR ⊢
    simp [up3]
    exact ⟨⟨ha, hR.1.2⟩, hR.2⟩
  · unfold sB at hB ⊢
    simp [up3]
    exact ⟨hB.1, hB.2.2⟩
  · unfold sL at hL ⊢
    simpa [up3] using hL
  · unfold sD at hD ⊢
    simpa [up3] using hD
  · unfold sA at hA ⊢
    simpa [up3] using hA
  · unfold sW at hS ⊢
    simpa [up3] using hS
theorem Sim.chg (h : Sim n C M) {a b d v : Int} (hr : (0 ≤ a ∧ a ≤ 24) ∧ (0 ≤ b ∧ b ≤ 99) ∧ (0 ≤ d ∧ d ≤ 24) ∧ 0 ≤ v ∧ v ≤ 99) : Sim n (up3 (up3 (up3 (up3 C 0 0 6 a) 0 0 7 b) 0 0 8 d) 0 0 9 v) (up3 (up3 (up3 (up3 M 0 0 17 a) 0 0 18 b) 0 0 19 d) 0 0 20 v) := by
  obtain ⟨⟨hW, h65, hR, hJ⟩, hB, hL, hD, hA, hS⟩ := h
  refine ⟨⟨(((hW.put rfl).put rfl).put rfl).put rfl, h65, ?_, hJ.put0.put0.put0.put0⟩, ?_, ?_, ?_, ?_, ?_⟩
  · unfold cR at hR ⊢
    simp [up3]
    exact ⟨⟨hR.1.1, hr.1, hr.2.1, hr.2.2.1, hr.2.2.2, hR.1.2.2.2.2.2⟩, hR.2⟩
  · unfold sB at hB ⊢
    simp [up3]
    exact ⟨hB.1, hB.2.1, hB.2.2.2.2.2.2⟩
  · unfold sL at hL ⊢
    simpa [up3] using hL
  · unfold sD at hD ⊢
    simpa [up3] using hD
  · unfold sA at hA ⊢
    simpa [up3] using hA
  · unfold sW at hS ⊢
    simpa [up3] using hS
theorem yPs_eq {T : Int} {j : Nat} (h : Sim n C M) (hj : j < n 8) : pSt M T j = yPs C T j := by
  have a := h.2.2.2.2.1.1 j hj
  unfold pSt yPs
  rw [a.1, a.2.2.2.1]
theorem yPn_eq {T : Int} (h : Sim n C M) : pN M T (n 8) = yPn C T (n 8) := by
  suffices ∀ k, k ≤ n 8 → pN M T k = yPn C T k from this _ (Nat.le_refl _)
  intro k
  induction k with
  | zero => exact fun _ => rfl
  | succ k ih =>
    intro hk
    have a := h.2.2.2.2.1.1 k (by omega)
    show pN M T k + _ = yPn C T k + _
    rw [ih (by omega), a.1, a.2.2.2.1]
theorem Sim.pass (h : Sim n C M) {a : Int} (ha : 1 ≤ a ∧ a ≤ 99) (ht : C 0 0 10 + 100 ≤ 100000) : Sim n (gY C (C 0 0 10 + a) (n 8)) (gP M (C 0 0 10 + a) (n 8)) := by
  have h8 : M 0 0 8 = (n 8 : Int) := h.2.1.1.2.2
  have hp := fun T j (hj : j < n 8) => yPs_eq (T := T) h hj
  obtain ⟨⟨hW, h65, hR, hJ⟩, hB, hL, hD, hA, hS⟩ := h
  have g : ∀ κ i k, ¬ (κ = 8 ∧ k = 4) → ¬ (κ = 0 ∧ i = 0 ∧ k = 10) → gY C (C 0 0 10 + a) (n 8) κ i k = C κ i k := fun κ i k q1 q2 => by
    unfold gY
    rw [if_neg (by omega), if_neg q2]
  have g4 : ∀ j, gY C (C 0 0 10 + a) (n 8) 8 j 4 = if j < n 8 then yPs C (C 0 0 10 + a) j else C 8 j 4 := fun j => by
    unfold gY
    by_cases q : j < n 8
    · rw [if_pos ⟨rfl, rfl, q⟩, if_pos q]
    · rw [if_neg (by omega), if_neg (by omega), if_neg q]
  have gt : gY C (C 0 0 10 + a) (n 8) 0 0 10 = C 0 0 10 + a := gY_10 _ _ _
  have p : ∀ κ i k, ¬ (κ = 12 ∧ i = 0) → ¬ (κ = 0 ∧ i = 0 ∧ k = 21) → gP M (C 0 0 10 + a) (n 8) κ i k = M κ i k := fun κ i k q1 q2 => by
    unfold gP
    rw [if_neg q2, if_neg (by omega)]
  have p12 : ∀ j, gP M (C 0 0 10 + a) (n 8) 12 0 j = if j < n 8 then yPs C (C 0 0 10 + a) j else M 12 0 j := fun j => by
    unfold gP
    by_cases q : j < n 8
    · rw [if_neg (by omega), if_pos ⟨rfl, rfl, by omega⟩, if_pos q, if_pos q, hp _ _ q]
    · rw [if_neg (by omega), if_neg (by omega), if_neg q]
  have pt : gP M (C 0 0 10 + a) (n 8) 0 0 21 = C 0 0 10 + a := gP_21 _ _ _
  have r4 : ∀ j, j < n 8 → yPs C (C 0 0 10 + a) j = C 8 j 4 ∨ (C 8 j 4 = 98 ∧ yPs C (C 0 0 10 + a) j = 110) := fun j hj => by
    unfold yPs
    split
    · rename_i q
      exact Or.inr ⟨q.1, rfl⟩
    · exact Or.inl rfl
  refine ⟨⟨?_, h65, ?_, ?_⟩, ?_, ?_, ?_, ?_, ?_⟩
  · unfold cW at hW ⊢
    simpa [g] using hW
  · unfold cR at hR ⊢
    simp [g, g4, gt]
    refine ⟨⟨hR.1.1, hR.1.2.1, hR.1.2.2.1, hR.1.2.2.2.1, hR.1.2.2.2.2.1, by omega, hR.1.2.2.2.2.2.2⟩, fun j hj => ?_⟩
    have r := hR.2 j hj
    have := r4 j hj
    rw [if_pos hj]
    exact ⟨r.1, r.2.1, r.2.2.1, by omega, r.2.2.2.2⟩
  · unfold cJ at hJ ⊢
    simpa [g] using hJ
  · unfold sB at hB ⊢
    simp [g, gt, p, pt]
    exact ⟨hB.1, hB.2.1, hB.2.2.1, hB.2.2.2.1, hB.2.2.2.2.1, hB.2.2.2.2.2.1, hB.2.2.2.2.2.2.2⟩
  · unfold sL at hL ⊢
    simpa [g, p] using hL
  · unfold sD at hD ⊢
    simpa [g, p] using hD
  · unfold sA at hA ⊢
    simp only [p12, g4]
    simp [g, p]
    refine ⟨fun j hj => ?_, fun j hj => ?_⟩
    · have r := hA.1 j hj
      rw [if_pos hj]
      exact ⟨r.1, r.2.1, r.2.2.1, by rw [if_pos hj], r.2.2.2.2⟩
    · have r := hA.2 j (by omega)
      rw [if_neg (by omega)]
      exact r
  · unfold sW at hS ⊢
    simp only [g4, gt]
    simp [g, p]
    refine ⟨fun j hj => ?_, hS.2⟩
    have r := hS.1 j hj
    have q := r4 j hj
    rw [if_pos hj]
    have q2 : yPs C (C 0 0 10 + a) j = 98 → C 0 0 10 + a - C 8 j 1 ≤ 24 := by
      intro z
      unfold yPs at z
      split at z
      · omega
      · omega
    refine ⟨?_, ?_, r.2.2.1, fun z => ?_⟩
    · rw [← r.1]
      omega
    · rw [← r.2.1]
      omega
    · have := q2 z
      omega
theorem Sim.cEq {C2 M2 : ts_St} (h : Sim n C M) (hC : cEq n C C2) (hM : mEq M M2) : Sim n C2 M2 := by
  obtain ⟨⟨hW, h65, hR, hJ⟩, hB, hL, hD, hA, hS⟩ := h
  have e0 : C2 0 = C 0 := hC.row (by decide)
  have e5 : C2 5 = C 5 := hC.row (by decide)
  have e7 : C2 7 = C 7 := hC.row (by decide)
  have e8 : C2 8 = C 8 := hC.row (by decide)
  have m : ∀ κ, ¬ κ = 4 → M2 κ = M κ := fun κ q => by
    funext i k
    exact hM.1 κ i k q
  refine ⟨⟨hC.W hW, h65, hC.R hR, hC.J hJ⟩, ?_, ⟨?_, ?_, fun i k hi hk h3 => ?_⟩, ?_, ?_, ?_⟩
  · unfold sB at hB ⊢
    rw [m 0 (by decide), e0]
    exact hB
  · rw [m 1 (by decide), m 2 (by decide), m 3 (by decide), e5]
    exact hL.1
  · rw [m 1 (by decide), m 2 (by decide), m 3 (by decide)]
    exact hL.2.1
  · rw [e5] at hk
    rw [hC.2 i k hi hk h3, hM.2 i k (by rw [(hL.1 i hi).2.2]; exact hk) h3]
    exact hL.2.2 i k hi hk h3
  · unfold sD at hD ⊢
    rw [m 6 (by decide), m 7 (by decide), e7]
    exact hD
  · unfold sA at hA ⊢
    rw [m 9 (by decide), m 10 (by decide), m 11 (by decide), m 12 (by decide), m 13 (by decide), m 14 (by decide), e8]
    exact hA
  · unfold sW at hS ⊢
    rw [m 15 (by decide), e0, e8]
    exact hS
end STP
