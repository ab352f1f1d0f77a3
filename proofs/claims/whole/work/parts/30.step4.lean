/-! A new lane, a new door, a new appointment. -/
section ST4
variable {n : Nat → Nat} {C M : ts_St}
theorem Sim.addL (h : Sim n C M) {a b : Int} (ha : 1 ≤ a ∧ a ≤ 3) (hl : n 5 < 4) : Sim (upN (upN n 5 (n 5 + 1)) 6 (n 5 + 1)) (yAddL n C a b) (up3 (up3 (up3 M 1 0 (n 5) a) 2 0 (n 5) b) 0 0 0 ((n 5 : Int) + 1)) := by
  obtain ⟨⟨hW, h65, hR, hJ⟩, hB, hL, hD, hA, hS⟩ := h
  have hlim := hW.lim
  have hcap := hW.2.2.2.1
  obtain ⟨A, eA⟩ : ∃ z, z = yAddL n C a b := ⟨_, rfl⟩
  rw [← eA]
  have e6 : upN n 5 (n 5 + 1) 6 = n 5 := by rw [upN_r (by decide)]; exact h65
  have Ak : ∀ κ x k, ¬ (κ = 1 ∨ κ = 2 ∨ κ = 5 ∨ κ = 6) → A κ x k = C κ x k := fun κ x k q => by
    rw [eA]
    unfold yAddL
    rw [up3_n (by omega), up3_n (by omega), yLaneNew_n (by omega), up2_r3 (by omega)]
  have A5 : ∀ x k, A 5 x k = if x = n 5 then (if k = 0 then (n 5 : Int) else if k = 1 then a else if k = 2 then b else if k = 3 then (n 5 : Int) else 0) else C 5 x k := fun x k => by
    rw [eA]
    unfold yAddL yLaneNew
    rw [up3_n (by omega), up3_n (by omega), e6]
    by_cases q : x = n 5
    · rw [if_pos q, q]
      by_cases k3 : k = 3
      · rw [k3, up3_s]; rfl
      · rw [up3_n (by omega), up2_r3 (by omega)]
        by_cases k2 : k = 2
        · rw [k2, up3_s]; rfl
        · rw [up3_n (by omega)]
          by_cases k1 : k = 1
          · rw [k1, up3_s]; rfl
          · rw [up3_n (by omega)]
            by_cases k0 : k = 0
            · rw [k0, up3_s]; rfl
            · rw [up3_n (by omega), up2_s, if_neg k0, if_neg k1, if_neg k2, if_neg k3]
              unfold zf
              rw [if_neg (by omega)]
    · rw [if_neg q, up3_n (by omega), up2_r3 (by omega), up3_n (by omega), up3_n (by omega), up3_n (by omega), up2_r (by omega)]
  have A6 : ∀ x k, ¬ x = n 5 → A 6 x k = C 6 x k := fun x k q => by
    rw [eA]
    unfold yAddL yLaneNew
    rw [up3_n (by omega), up3_n (by omega), e6, up3_n (by omega), up2_r (by omega), up3_n (by omega), up3_n (by omega), up3_n (by omega), up2_r3 (by omega)]
  have A2 : ∀ k, A 2 0 k = if k = n 5 then (n 5 : Int) else C 2 0 k := fun k => by
    rw [eA]
    unfold yAddL
    rw [up3_n (by omega)]
    by_cases q : k = n 5
    · rw [if_pos q, q, up3_s]
    · rw [if_neg q, up3_n (by omega), yLaneNew_n (by omega), up2_r3 (by omega)]
  have A1 : A 1 0 0 = C 1 0 0 ∧ A 1 0 1 = (n 5 : Int) + 1 := by
    rw [eA]
    unfold yAddL
    exact ⟨by rw [up3_n (by omega), up3_n (by omega), yLaneNew_n (by omega), up2_r3 (by omega)], by rw [up3_s]⟩
  clear eA
  have R0 : A 0 = C 0 := by
    funext x k
    exact Ak 0 x k (by omega)
  have R3 : A 3 = C 3 := by
    funext x k
    exact Ak 3 x k (by omega)
  have R4 : A 4 = C 4 := by
    funext x k
    exact Ak 4 x k (by omega)
  have R7 : A 7 = C 7 := by
    funext x k
    exact Ak 7 x k (by omega)
  have R8 : A 8 = C 8 := by
    funext x k
    exact Ak 8 x k (by omega)
  obtain ⟨n', en⟩ : ∃ z, z = upN (upN n 5 (n 5 + 1)) 6 (n 5 + 1) := ⟨_, rfl⟩
  rw [← en]
  have m5 : n' 5 = n 5 + 1 := by rw [en, upN_r (by decide), upN_s]
  have m6 : n' 6 = n 5 + 1 := by rw [en, upN_s]
  have mk : ∀ κ, ¬ κ = 5 → ¬ κ = 6 → n' κ = n κ := fun κ q1 q2 => by rw [en, upN_r q2, upN_r q1]
  clear en
  obtain ⟨N, eN⟩ : ∃ z, z = up3 (up3 (up3 M 1 0 (n 5) a) 2 0 (n 5) b) 0 0 0 ((n 5 : Int) + 1) := ⟨_, rfl⟩
  rw [← eN]
  have N1 : ∀ k, N 1 0 k = if k = n 5 then a else M 1 0 k := fun k => by
    rw [eN, up3_n (by omega), up3_n (by omega)]
    by_cases q : k = n 5
    · rw [if_pos q, q, up3_s]
    · rw [if_neg q, up3_n (by omega)]
  have N2 : ∀ k, N 2 0 k = if k = n 5 then b else M 2 0 k := fun k => by
    rw [eN, up3_n (by omega)]
    by_cases q : k = n 5
    · rw [if_pos q, q, up3_s]
    · rw [if_neg q, up3_n (by omega), up3_n (by omega)]
  have N0 : ∀ k, ¬ k = 0 → N 0 0 k = M 0 0 k := fun k q => by rw [eN, up3_n (by omega), up3_n (by omega), up3_n (by omega)]
  have N00 : N 0 0 0 = (n 5 : Int) + 1 := by rw [eN, up3_s]
  have Nk : ∀ κ k, ¬ (κ = 0 ∨ κ = 1 ∨ κ = 2) → N κ 0 k = M κ 0 k := fun κ k q => by rw [eN, up3_n (by omega), up3_n (by omega), up3_n (by omega)]
  clear eN
  refine ⟨⟨?_, by omega, ?_, ⟨fun i hi => ?_, fun j hj => ?_⟩⟩, ?_, ⟨fun i hi => ?_, fun i hi => ?_, fun i k hi hk h3 => ?_⟩, ?_, ?_, ?_⟩
  · obtain ⟨w1, w2, w3, w4, w5, w6, w7, w8, w9⟩ := hW
    unfold cW
    rw [R0, R3, R4, R8, mk 0 (by decide) (by decide), mk 1 (by decide) (by decide), mk 2 (by decide) (by decide), mk 3 (by decide) (by decide), mk 4 (by decide) (by decide), mk 7 (by decide) (by decide), mk 8 (by decide) (by decide), A1.1, A1.2, m5, m6]
    refine ⟨w1, w2, fun i hi => ⟨hi, ?_⟩, fun κ => ?_, ⟨w5.1, w5.2.1, by omega⟩, fun k hk => ⟨?_, ?_⟩, w7, w8, by omega⟩
    · rw [A5]
      by_cases q : i = n 5
      · rw [if_pos q, q]
        rfl
      · rw [if_neg q]
        exact (w3 i (by omega)).2
    · by_cases q1 : κ = 5
      · rw [q1]; omega
      · by_cases q2 : κ = 6
        · rw [q2]; omega
        · rw [mk κ q1 q2]
          exact w4 κ
    · rw [A2]
      by_cases q : k = n 5
      · rw [if_pos q, q]
      · rw [if_neg q]
        exact (w6 k (by omega)).1
    · rw [A5]
      by_cases q : k = n 5
      · rw [if_pos q, q]
        rfl
      · rw [if_neg q]
        exact (w6 k (by omega)).2
  · unfold cR at hR ⊢
    rw [R0, R8, mk 8 (by decide) (by decide)]
    exact hR
  · rw [m5] at hi
    rw [A5, A5, mk 8 (by decide) (by decide), R8]
    by_cases q : i = n 5
    · rw [if_pos q, if_pos q]
      refine ⟨⟨show (0 : Int) ≤ 0 by decide, show (0 : Int) ≤ a by omega, show 1 ≤ a by omega, show a ≤ 3 by omega⟩, fun k hk => ?_⟩
      have hk : (k : Int) < 0 := hk
      omega
    · rw [if_neg q, if_neg q]
      refine ⟨(hJ.1 i (by omega)).1, fun k hk => ?_⟩
      rw [A6 i k q]
      exact (hJ.1 i (by omega)).2 k hk
  · rw [mk 8 (by decide) (by decide)] at hj
    rw [R8]
    refine ⟨(hJ.2 j hj).1, fun q => ?_⟩
    obtain ⟨p1, p2, p3, p4⟩ := (hJ.2 j hj).2 q
    rw [A5, if_neg (by omega), A6 _ _ (by omega), m5]
    exact ⟨by omega, p2, p3, p4⟩
  · unfold sB at hB ⊢
    rw [N00, N0 5 (by decide), N0 8 (by decide), N0 16 (by decide), N0 17 (by decide), N0 18 (by decide), N0 19 (by decide), N0 20 (by decide), N0 21 (by decide), N0 22 (by decide), N0 23 (by decide), R0, m5, mk 7 (by decide) (by decide), mk 8 (by decide) (by decide)]
    exact ⟨⟨by omega, hB.1.2⟩, hB.2⟩
  · rw [m5] at hi
    rw [N1, N2, Nk 3 _ (by decide), A5, A5, A5]
    by_cases q : i = n 5
    · rw [if_pos q, if_pos q, if_pos q, if_pos q, if_pos q]
      exact ⟨rfl, rfl, (hL.2.1 i (by omega)).2.2⟩
    · rw [if_neg q, if_neg q, if_neg q, if_neg q, if_neg q]
      exact hL.1 i (by omega)
  · rw [m5] at hi
    rw [N1, N2, Nk 3 _ (by decide), if_neg (by omega), if_neg (by omega)]
    exact hL.2.1 i (by omega)
  · rw [m5] at hi
    rw [A5] at hk
    by_cases q : i = n 5
    · rw [if_pos q] at hk
      have hk : (k : Int) < 0 := hk
      omega
    · rw [if_neg q] at hk
      rw [Nk 4 _ (by decide), A6 i k q]
      exact hL.2.2 i k (by omega) hk h3
  · unfold sD at hD ⊢
    simp only [Nk 6 _ (by decide), Nk 7 _ (by decide), R7, mk 7 (by decide) (by decide)]
    exact hD
  · unfold sA at hA ⊢
    simp only [Nk 9 _ (by decide), Nk 10 _ (by decide), Nk 11 _ (by decide), Nk 12 _ (by decide), Nk 13 _ (by decide), Nk 14 _ (by decide), R8, mk 8 (by decide) (by decide)]
    exact hA
  · unfold sW at hS ⊢
    simp only [Nk 15 _ (by decide), R8, R0, mk 8 (by decide) (by decide), mk 7 (by decide) (by decide)]
    exact hS
theorem Sim.addD (h : Sim n C M) {a : Int} (hl : n 7 < 4) : Sim (upN n 7 (n 7 + 1)) (yAddD n C a) (up3 (up3 (up3 M 6 0 (n 7) a) 7 0 (n 7) (-1)) 0 0 5 ((n 7 : Int) + 1)) := by
  obtain ⟨⟨hW, h65, hR, hJ⟩, hB, hL, hD, hA, hS⟩ := h
  have hlim := hW.lim
  obtain ⟨A, eA⟩ : ∃ z, z = yAddD n C a := ⟨_, rfl⟩
  rw [← eA]
  have Ak : ∀ κ x k, ¬ (κ = 7 ∨ κ = 3 ∨ (κ = 0 ∧ k = 2)) → A κ x k = C κ x k := fun κ x k q => by
    rw [eA]
    unfold yAddD
    rw [up3_n (by omega), up3_n (by omega), up3_n (by omega), up2_r3 (by omega)]
  have A7 : ∀ x, A 7 x 0 = (if x = n 7 then a else C 7 x 0) ∧ A 7 x 1 = (if x = n 7 then 0 else C 7 x 1) := fun x => by
    rw [eA]
    unfold yAddD
    refine ⟨?_, ?_⟩
    · rw [up3_n (by omega), up3_n (by omega)]
      by_cases q : x = n 7
      · rw [if_pos q, q, up3_s]
      · rw [if_neg q, up3_n (by omega), up2_r (by omega)]
    · rw [up3_n (by omega), up3_n (by omega), up3_n (by omega)]
      by_cases q : x = n 7
      · rw [if_pos q, q, up2_s]
        rfl
      · rw [if_neg q, up2_r (by omega)]
  have A3 : ∀ k, A 3 0 k = if k = n 7 then (n 7 : Int) else C 3 0 k := fun k => by
    rw [eA]
    unfold yAddD
    rw [up3_n (by omega)]
    by_cases q : k = n 7
    · rw [if_pos q, q, up3_s]
    · rw [if_neg q, up3_n (by omega), up3_n (by omega), up2_r3 (by omega)]
  have A02 : A 0 0 2 = (n 7 : Int) + 1 := by
    rw [eA]
    unfold yAddD
    rw [up3_s]
  clear eA
  have A0 : ∀ k, ¬ k = 2 → A 0 0 k = C 0 0 k := fun k q => Ak 0 0 k (by omega)
  have R1 : A 1 = C 1 := by
    funext x k
    exact Ak 1 x k (by omega)
  have R2 : A 2 = C 2 := by
    funext x k
    exact Ak 2 x k (by omega)
  have R4 : A 4 = C 4 := by
    funext x k
    exact Ak 4 x k (by omega)
  have R5 : A 5 = C 5 := by
    funext x k
    exact Ak 5 x k (by omega)
  have R6 : A 6 = C 6 := by
    funext x k
    exact Ak 6 x k (by omega)
  have R8 : A 8 = C 8 := by
    funext x k
    exact Ak 8 x k (by omega)
  obtain ⟨n', en⟩ : ∃ z, z = upN n 7 (n 7 + 1) := ⟨_, rfl⟩
  rw [← en]
  have m7 : n' 7 = n 7 + 1 := by rw [en, upN_s]
  have mk : ∀ κ, ¬ κ = 7 → n' κ = n κ := fun κ q1 => by rw [en, upN_r q1]
  clear en
  obtain ⟨N, eN⟩ : ∃ z, z = up3 (up3 (up3 M 6 0 (n 7) a) 7 0 (n 7) (-1)) 0 0 5 ((n 7 : Int) + 1) := ⟨_, rfl⟩
  rw [← eN]
  have N6 : ∀ k, N 6 0 k = if k = n 7 then a else M 6 0 k := fun k => by
    rw [eN, up3_n (by omega), up3_n (by omega)]
    by_cases q : k = n 7
    · rw [if_pos q, q, up3_s]
    · rw [if_neg q, up3_n (by omega)]
  have N7 : ∀ k, N 7 0 k = if k = n 7 then -1 else M 7 0 k := fun k => by
    rw [eN, up3_n (by omega)]
    by_cases q : k = n 7
    · rw [if_pos q, q, up3_s]
    · rw [if_neg q, up3_n (by omega), up3_n (by omega)]
  have N0 : ∀ k, ¬ k = 5 → N 0 0 k = M 0 0 k := fun k q => by rw [eN, up3_n (by omega), up3_n (by omega), up3_n (by omega)]
  have N05 : N 0 0 5 = (n 7 : Int) + 1 := by rw [eN, up3_s]
  have Nk : ∀ κ k, ¬ (κ = 0 ∨ κ = 6 ∨ κ = 7) → N κ 0 k = M κ 0 k := fun κ k q => by rw [eN, up3_n (by omega), up3_n (by omega), up3_n (by omega)]
  clear eN
  refine ⟨⟨?_, by rw [mk 6 (by decide), mk 5 (by decide)]; exact h65, ?_, ?_⟩, ?_, ?_, ⟨fun d hd => ?_, fun d hd => ?_⟩, ?_, ⟨fun j hj => ?_, fun x => ?_⟩⟩
  · obtain ⟨w1, w2, w3, w4, w5, w6, w7, w8, w9⟩ := hW
    unfold cW
    rw [A0 0 (by decide), A0 1 (by decide), A0 3 (by decide), A0 4 (by decide), A02, R1, R2, R4, R5, R8, mk 0 (by decide), mk 1 (by decide), mk 2 (by decide), mk 3 (by decide), mk 4 (by decide), mk 5 (by decide), mk 6 (by decide), mk 8 (by decide), m7]
    refine ⟨w1, w2, w3, fun κ => ?_, ⟨by omega, w5.2⟩, w6, fun k hk => ?_, w8, by omega⟩
    · by_cases q1 : κ = 7
      · rw [q1]; omega
      · rw [mk κ q1]
        exact w4 κ
    · rw [A3]
      by_cases q : k = n 7
      · rw [if_pos q, q]
      · rw [if_neg q]
        exact w7 k (by omega)
  · unfold cR at hR ⊢
    rw [A0 5 (by decide), A0 6 (by decide), A0 7 (by decide), A0 8 (by decide), A0 9 (by decide), A0 10 (by decide), A0 11 (by decide), R8, mk 8 (by decide)]
    exact hR
  · unfold cJ at hJ ⊢
    rw [R5, R6, R8, mk 5 (by decide), mk 8 (by decide)]
    exact hJ
  · unfold sB at hB ⊢
    rw [N05, N0 0 (by decide), N0 8 (by decide), N0 16 (by decide), N0 17 (by decide), N0 18 (by decide), N0 19 (by decide), N0 20 (by decide), N0 21 (by decide), N0 22 (by decide), N0 23 (by decide), A0 5 (by decide), A0 6 (by decide), A0 7 (by decide), A0 8 (by decide), A0 9 (by decide), A0 10 (by decide), A0 11 (by decide), A0 12 (by decide), m7, mk 5 (by decide), mk 8 (by decide)]
    exact ⟨⟨hB.1.1, by omega, hB.1.2.2⟩, hB.2⟩
  · unfold sL at hL ⊢
    simp only [Nk 1 _ (by decide), Nk 2 _ (by decide), Nk 3 _ (by decide), Nk 4 _ (by decide), R5, R6, mk 5 (by decide)]
    exact hL
  · rw [m7] at hd
    rw [N6, N7, (A7 d).1, (A7 d).2]
    by_cases q : d = n 7
    · rw [if_pos q, if_pos q, if_pos q, if_pos q]
      exact ⟨rfl, by decide⟩
    · rw [if_neg q, if_neg q, if_neg q, if_neg q]
      exact hD.1 d (by omega)
  · rw [m7] at hd
    rw [N6, if_neg (by omega)]
    exact hD.2 d (by omega)
  · unfold sA at hA ⊢
    simp only [Nk 9 _ (by decide), Nk 10 _ (by decide), Nk 11 _ (by decide), Nk 12 _ (by decide), Nk 13 _ (by decide), Nk 14 _ (by decide), R8, mk 8 (by decide)]
    exact hA
  · rw [mk 8 (by decide)] at hj
    have r := hS.1 j hj
    rw [R8, A0 10 (by decide), Nk 15 _ (by decide), m7]
    exact ⟨r.1, r.2.1, fun q => ⟨by have := (r.2.2.1 q).1; omega, (r.2.2.1 q).2⟩, r.2.2.2⟩
  · rw [Nk 15 _ (by decide)]
    exact hS.2 x
theorem Sim.book (h : Sim n C M) {a b d : Int} (ha : C 0 0 10 ≤ a ∧ a ≤ 999) (hb : b = 100 ∨ b = 99) (hd : 1 ≤ d ∧ d ≤ 9) (hl : n 8 < 40) : Sim (upN n 8 (n 8 + 1)) (yBookA n C a b d) (up3 (up3 (up3 (up3 (up3 M 9 0 (n 8) a) 10 0 (n 8) b) 11 0 (n 8) d) 12 0 (n 8) 98) 0 0 8 ((n 8 : Int) + 1)) := by
  obtain ⟨⟨hW, h65, hR, hJ⟩, hB, hL, hD, hA, hS⟩ := h
  have hlim := hW.lim
  obtain ⟨A, eA⟩ : ∃ z, z = yBookA n C a b d := ⟨_, rfl⟩
  rw [← eA]
  have Ak : ∀ κ x k, ¬ (κ = 8 ∨ κ = 4 ∨ (κ = 0 ∧ k = 4)) → A κ x k = C κ x k := fun κ x k q => by
    rw [eA]
    unfold yBookA
    rw [up3_n (by omega), up3_n (by omega), yAppNew_n (by omega), up2_r3 (by omega)]
  have A8 : ∀ x k, ¬ x = n 8 → A 8 x k = C 8 x k := fun x k q => by
    rw [eA]
    unfold yBookA yAppNew
    rw [up3_n (by omega), up3_n (by omega), up3_n (by omega), up3_n (by omega), up3_n (by omega), up3_n (by omega), up3_n (by omega), up2_r (by omega)]
  have A8n : A 8 (n 8) 0 = (n 8 : Int) ∧ A 8 (n 8) 1 = a ∧ A 8 (n 8) 2 = b ∧ A 8 (n 8) 3 = d ∧ A 8 (n 8) 4 = 98 ∧ A 8 (n 8) 5 = 0 ∧ A 8 (n 8) 6 = 0 ∧ A 8 (n 8) 7 = -1 ∧ A 8 (n 8) 8 = 0 ∧ A 8 (n 8) 9 = -1 := by
    rw [eA]
    unfold yBookA yAppNew
    simp [up3, up2, zf]
  have A4 : ∀ k, A 4 0 k = if k = n 8 then (n 8 : Int) else C 4 0 k := fun k => by
    rw [eA]
    unfold yBookA
    rw [up3_n (by omega)]
    by_cases q : k = n 8
    · rw [if_pos q, q, up3_s]
    · rw [if_neg q, up3_n (by omega), yAppNew_n (by omega), up2_r3 (by omega)]
  have A04 : A 0 0 4 = (n 8 : Int) + 1 := by
    rw [eA]
    unfold yBookA
    rw [up3_s]
  clear eA
  have A0 : ∀ k, ¬ k = 4 → A 0 0 k = C 0 0 k := fun k q => Ak 0 0 k (by omega)
  have R1 : A 1 = C 1 := by
    funext x k
    exact Ak 1 x k (by omega)
  have R2 : A 2 = C 2 := by
    funext x k
    exact Ak 2 x k (by omega)
  have R3 : A 3 = C 3 := by
    funext x k
    exact Ak 3 x k (by omega)
  have R5 : A 5 = C 5 := by
    funext x k
    exact Ak 5 x k (by omega)
  have R6 : A 6 = C 6 := by
    funext x k
    exact Ak 6 x k (by omega)
  have R7 : A 7 = C 7 := by
    funext x k
    exact Ak 7 x k (by omega)
  obtain ⟨n', en⟩ : ∃ z, z = upN n 8 (n 8 + 1) := ⟨_, rfl⟩
  rw [← en]
  have m8 : n' 8 = n 8 + 1 := by rw [en, upN_s]
  have mk : ∀ κ, ¬ κ = 8 → n' κ = n κ := fun κ q1 => by rw [en, upN_r q1]
  clear en
  obtain ⟨N, eN⟩ : ∃ z, z = up3 (up3 (up3 (up3 (up3 M 9 0 (n 8) a) 10 0 (n 8) b) 11 0 (n 8) d) 12 0 (n 8) 98) 0 0 8 ((n 8 : Int) + 1) := ⟨_, rfl⟩
  rw [← eN]
  have Nn : N 9 0 (n 8) = a ∧ N 10 0 (n 8) = b ∧ N 11 0 (n 8) = d ∧ N 12 0 (n 8) = 98 := by
    rw [eN]
    simp [up3]
  have No : ∀ κ k, ¬ k = n 8 → ¬ κ = 0 → N κ 0 k = M κ 0 k := fun κ k q q2 => by
    rw [eN, up3_n (by omega), up3_n (by omega), up3_n (by omega), up3_n (by omega), up3_n (by omega)]
  have N0 : ∀ k, ¬ k = 8 → N 0 0 k = M 0 0 k := fun k q => by rw [eN, up3_n (by omega), up3_n (by omega), up3_n (by omega), up3_n (by omega), up3_n (by omega)]
  have N08 : N 0 0 8 = (n 8 : Int) + 1 := by rw [eN, up3_s]
  have Nk : ∀ κ k, ¬ (κ = 0 ∨ κ = 9 ∨ κ = 10 ∨ κ = 11 ∨ κ = 12) → N κ 0 k = M κ 0 k := fun κ k q => by rw [eN, up3_n (by omega), up3_n (by omega), up3_n (by omega), up3_n (by omega), up3_n (by omega)]
  clear eN
  obtain ⟨a0, a1, a2, a3, a4, a5, a6, a7, a8, a9⟩ := A8n
  refine ⟨⟨?_, by rw [mk 6 (by decide), mk 5 (by decide)]; exact h65, ⟨?_, fun j hj => ?_⟩, ⟨fun i hi => ?_, fun j hj => ?_⟩⟩, ?_, ?_, ?_, ⟨fun j hj => ?_, fun j hj => ?_⟩, ⟨fun j hj => ?_, fun x => ?_⟩⟩
  · obtain ⟨w1, w2, w3, w4, w5, w6, w7, w8, w9⟩ := hW
    unfold cW
    rw [A0 0 (by decide), A0 1 (by decide), A0 3 (by decide), A0 2 (by decide), A04, R1, R2, R3, R5, mk 0 (by decide), mk 1 (by decide), mk 2 (by decide), mk 3 (by decide), mk 4 (by decide), mk 5 (by decide), mk 6 (by decide), mk 7 (by decide), m8]
    refine ⟨w1, w2, w3, fun κ => ?_, ⟨w5.1, by omega, w5.2.2⟩, w6, w7, fun k hk => ?_, by omega⟩
    · by_cases q1 : κ = 8
      · rw [q1]; omega
      · rw [mk κ q1]
        exact w4 κ
    · rw [A4]
      by_cases q : k = n 8
      · rw [if_pos q, q]
        exact ⟨rfl, a0⟩
      · rw [if_neg q, A8 k 0 q]
        exact w8 k (by omega)
  · rw [A0 5 (by decide), A0 6 (by decide), A0 7 (by decide), A0 8 (by decide), A0 9 (by decide), A0 10 (by decide), A0 11 (by decide)]
    exact hR.1
  · rw [m8] at hj
    by_cases q : j = n 8
    · subst q
      have := hR.1
      omega
    · rw [A8 j 1 q, A8 j 2 q, A8 j 3 q, A8 j 4 q, A8 j 5 q, A8 j 6 q]
      exact hR.2 j (by omega)
  · rw [mk 5 (by decide)] at hi
    rw [R5, R6, m8]
    refine ⟨(hJ.1 i hi).1, fun k hk => ?_⟩
    obtain ⟨p1, p2, p3, p4⟩ := (hJ.1 i hi).2 k hk
    rw [A8 _ 7 (by omega), A8 _ 8 (by omega)]
    exact ⟨p1, by omega, p3, p4⟩
  · rw [m8] at hj
    by_cases q : j = n 8
    · subst q
      exact ⟨by omega, fun z => by omega⟩
    · rw [A8 j 2 q, A8 j 7 q, A8 j 8 q, R5, R6, mk 5 (by decide)]
      exact hJ.2 j (by omega)
  · unfold sB at hB ⊢
    rw [N08, N0 0 (by decide), N0 5 (by decide), N0 16 (by decide), N0 17 (by decide), N0 18 (by decide), N0 19 (by decide), N0 20 (by decide), N0 21 (by decide), N0 22 (by decide), N0 23 (by decide), A0 5 (by decide), A0 6 (by decide), A0 7 (by decide), A0 8 (by decide), A0 9 (by decide), A0 10 (by decide), A0 11 (by decide), A0 12 (by decide), m8, mk 5 (by decide), mk 7 (by decide)]
    exact ⟨⟨hB.1.1, hB.1.2.1, by omega⟩, hB.2⟩
  · unfold sL at hL ⊢
    simp only [Nk 1 _ (by decide), Nk 2 _ (by decide), Nk 3 _ (by decide), Nk 4 _ (by decide), R5, R6, mk 5 (by decide)]
    exact hL
  · unfold sD at hD ⊢
    simp only [Nk 6 _ (by decide), Nk 7 _ (by decide), R7, mk 7 (by decide)]
    exact hD
  · rw [m8] at hj
    by_cases q : j = n 8
    · subst q
      have z := hA.2 (n 8) (by omega)
      rw [Nk 13 _ (by decide), Nk 14 _ (by decide), Nn.1, Nn.2.1, Nn.2.2.1, Nn.2.2.2, a1, a2, a3, a4, a5, a6]
      exact ⟨rfl, rfl, rfl, rfl, z.2.2.2.2⟩
    · rw [No 9 j q (by decide), No 10 j q (by decide), No 11 j q (by decide), No 12 j q (by decide), No 13 j q (by decide), No 14 j q (by decide), A8 j 1 q, A8 j 2 q, A8 j 3 q, A8 j 4 q, A8 j 5 q, A8 j 6 q]
      exact hA.1 j (by omega)
  · rw [m8] at hj
    rw [No 9 j (by omega) (by decide), No 10 j (by omega) (by decide), No 11 j (by omega) (by decide), No 12 j (by omega) (by decide), No 13 j (by omega) (by decide), No 14 j (by omega) (by decide)]
    exact hA.2 j (by omega)
  · rw [m8] at hj
    by_cases q : j = n 8
    · subst q
      rw [a4, a7, a9, a1, A0 10 (by decide)]
      omega
    · rw [A8 j 4 q, A8 j 7 q, A8 j 9 q, A8 j 1 q, A0 10 (by decide), Nk 15 _ (by decide), mk 7 (by decide)]
      exact hS.1 j (by omega)
  · rw [Nk 15 _ (by decide)]
    exact hS.2 x
end ST4
