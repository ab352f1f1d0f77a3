/-! Docking, leaving, and what is new. -/
section ST3
variable {n : Nat → Nat} {C M : ts_St}
theorem Sim.dock (h : Sim n C M) {a d j : Nat} (ha : a < n 5) (hd : d < n 7) (hj : j < n 8) (h7 : C 8 j 7 = (a : Int)) (h0 : yBefore C a j = 0) (hm : C 0 0 11 + 1 ≤ 100000) : Sim n (yDock C a d j) (up3 (up3 (up3 (up3 (up3 (up3 M 3 0 a (M 3 0 a - 1)) 7 0 d (j : Int)) 15 0 j (d : Int)) 14 0 j (M 0 0 21)) 12 0 j 119) 0 0 22 (M 0 0 22 + 1)) := by
  obtain ⟨⟨hW, h65, hR, hJ⟩, hB, hL, hD, hA, hS⟩ := h
  have s0 := hS.1 j hj
  obtain ⟨p1, p2, p3, p4⟩ := (hJ.2 j hj).2 (by omega)
  rw [h7, Int.toNat_natCast] at p3 p4
  have hb0 : C 5 a 4 - 1 - C 8 j 8 = 0 := h0
  have h1 : 1 ≤ C 5 a 4 := by omega
  have hx : yExit C a 0 = (j : Int) := by
    rw [(yExit_0 hJ ha h1).1, show (C 5 a 4 - 1).toNat = (C 8 j 8).toNat by omega, p4]
  obtain ⟨t54, t5, t87, t8, tk⟩ := yTake_at hJ ha h1 hx
  obtain ⟨k1, k2⟩ := cJ_take hJ ha h1
  have hca := (hJ.1 a ha).1
  have hlim := hW.lim
  have r0 := hR.1
  have T0 : yTakeOut C a 0 0 10 = C 0 0 10 := tk 0 0 10 (by decide)
  have T11 : yTakeOut C a 0 0 11 = C 0 0 11 := tk 0 0 11 (by decide)
  obtain ⟨A, eA⟩ : ∃ z, z = yDock C a d j := ⟨_, rfl⟩
  rw [← eA]
  have A0 : ∀ k, ¬ k = 11 → A 0 0 k = C 0 0 k := fun k q => by
    rw [eA]
    unfold yDock
    rw [up3_n (by omega), up3_n (by omega), up3_n (by omega), up3_n (by omega), up3_n (by omega), tk 0 _ _ (by decide)]
  have A11 : A 0 0 11 = C 0 0 11 + 1 := by
    rw [eA]
    unfold yDock
    rw [up3_s]
  have A5 : ∀ x k, A 5 x k = yTakeOut C a 5 x k := fun x k => by
    rw [eA]
    unfold yDock
    rw [up3_n (by omega), up3_n (by omega), up3_n (by omega), up3_n (by omega), up3_n (by omega)]
  have A6 : ∀ x k, A 6 x k = C 6 x k := fun x k => by
    rw [eA]
    unfold yDock
    rw [up3_n (by omega), up3_n (by omega), up3_n (by omega), up3_n (by omega), up3_n (by omega), tk 6 _ _ (by decide)]
  have A70 : ∀ x, A 7 x 0 = C 7 x 0 := fun x => by
    rw [eA]
    unfold yDock
    rw [up3_n (by omega), up3_n (by omega), up3_n (by omega), up3_n (by omega), up3_n (by omega), tk 7 _ _ (by decide)]
  have A71 : ∀ x, A 7 x 1 = if x = d then 1 else C 7 x 1 := fun x => by
    rw [eA]
    unfold yDock
    rw [up3_n (by omega), up3_n (by omega), up3_n (by omega), up3_n (by omega)]
    by_cases q : x = d
    · rw [q, up3_s, if_pos rfl]
    · rw [up3_n (by omega), if_neg q, tk 7 _ _ (by decide)]
  have A8 : ∀ x k, ¬ k = 4 → ¬ k = 6 → ¬ k = 7 → ¬ k = 9 → A 8 x k = C 8 x k := fun x k q1 q2 q3 q4 => by
    rw [eA]
    unfold yDock
    rw [up3_n (by omega), up3_n (by omega), up3_n (by omega), up3_n (by omega), up3_n (by omega), t8 x k q3]
  have A84 : ∀ x, A 8 x 4 = if x = j then 119 else C 8 x 4 := fun x => by
    rw [eA]
    unfold yDock
    rw [up3_n (by omega), up3_n (by omega)]
    by_cases q : x = j
    · rw [q, up3_s, if_pos rfl]
    · rw [up3_n (by omega), if_neg q, up3_n (by omega), up3_n (by omega), t8 x 4 (by decide)]
  have A86 : ∀ x, A 8 x 6 = if x = j then C 0 0 10 else C 8 x 6 := fun x => by
    rw [eA]
    unfold yDock
    rw [up3_n (by omega)]
    by_cases q : x = j
    · rw [q, up3_s, if_pos rfl]
    · rw [up3_n (by omega), if_neg q, up3_n (by omega), up3_n (by omega), up3_n (by omega), t8 x 6 (by decide)]
  have A87 : ∀ x, A 8 x 7 = if x = j then -1 else C 8 x 7 := fun x => by
    rw [eA]
    unfold yDock
    rw [up3_n (by omega), up3_n (by omega), up3_n (by omega), up3_n (by omega), up3_n (by omega), t87]
  have A89 : ∀ x, A 8 x 9 = if x = j then (d : Int) else C 8 x 9 := fun x => by
    rw [eA]
    unfold yDock
    rw [up3_n (by omega), up3_n (by omega), up3_n (by omega)]
    by_cases q : x = j
    · rw [q, up3_s, if_pos rfl]
    · rw [up3_n (by omega), if_neg q, up3_n (by omega), t8 x 9 (by decide)]
  have AJ : cJ n A := by
    rw [eA]
    unfold yDock
    exact ((((k1.put (by omega)).put (by omega)).put (by omega)).put (by omega)).put0
  have AW : cW n A := by
    rw [eA]
    unfold yDock
    exact (((((yTakeOut_W hW).put rfl).put rfl).put rfl).put rfl).put rfl
  clear eA
  obtain ⟨N, eN⟩ : ∃ z, z = up3 (up3 (up3 (up3 (up3 (up3 M 3 0 a (M 3 0 a - 1)) 7 0 d (j : Int)) 15 0 j (d : Int)) 14 0 j (M 0 0 21)) 12 0 j 119) 0 0 22 (M 0 0 22 + 1) := ⟨_, rfl⟩
  rw [← eN]
  have N0 : ∀ k, ¬ k = 22 → N 0 0 k = M 0 0 k := fun k q => by rw [eN, up3_n (by omega), up3_n (by omega), up3_n (by omega), up3_n (by omega), up3_n (by omega), up3_n (by omega)]
  have N22 : N 0 0 22 = M 0 0 22 + 1 := by rw [eN, up3_s]
  have N3 : ∀ l, N 3 0 l = if l = a then M 3 0 l - 1 else M 3 0 l := fun l => by
    rw [eN, up3_n (by omega), up3_n (by omega), up3_n (by omega), up3_n (by omega), up3_n (by omega)]
    by_cases q : l = a
    · rw [q, up3_s, if_pos rfl]
    · rw [up3_n (by omega), if_neg q]
  have N7 : ∀ x, N 7 0 x = if x = d then (j : Int) else M 7 0 x := fun x => by
    rw [eN, up3_n (by omega), up3_n (by omega), up3_n (by omega), up3_n (by omega)]
    by_cases q : x = d
    · rw [q, up3_s, if_pos rfl]
    · rw [up3_n (by omega), if_neg q, up3_n (by omega)]
  have N15 : ∀ x, N 15 0 x = if x = j then (d : Int) else M 15 0 x := fun x => by
    rw [eN, up3_n (by omega), up3_n (by omega), up3_n (by omega)]
    by_cases q : x = j
    · rw [q, up3_s, if_pos rfl]
    · rw [up3_n (by omega), if_neg q, up3_n (by omega), up3_n (by omega)]
  have N14 : ∀ x, N 14 0 x = if x = j then M 0 0 21 else M 14 0 x := fun x => by
    rw [eN, up3_n (by omega), up3_n (by omega)]
    by_cases q : x = j
    · rw [q, up3_s, if_pos rfl]
    · rw [up3_n (by omega), if_neg q, up3_n (by omega), up3_n (by omega), up3_n (by omega)]
  have N12 : ∀ x, N 12 0 x = if x = j then 119 else M 12 0 x := fun x => by
    rw [eN, up3_n (by omega)]
    by_cases q : x = j
    · rw [q, up3_s, if_pos rfl]
    · rw [up3_n (by omega), if_neg q, up3_n (by omega), up3_n (by omega), up3_n (by omega), up3_n (by omega)]
  have Nk : ∀ κ k, ¬ (κ = 0 ∨ κ = 3 ∨ κ = 7 ∨ κ = 15 ∨ κ = 14 ∨ κ = 12) → N κ 0 k = M κ 0 k := fun κ k q => by rw [eN, up3_n (by omega), up3_n (by omega), up3_n (by omega), up3_n (by omega), up3_n (by omega), up3_n (by omega)]
  clear eN
  have e21 := hB.2.2.2.2.2.2.1
  have e22 := hB.2.2.2.2.2.2.2.1
  refine ⟨⟨AW, h65, ?_, AJ⟩, ?_, ⟨fun l hl => ?_, fun l hl => ?_, fun l k hl hk h3 => ?_⟩, ⟨fun x hx => ?_, fun x hx => ?_⟩, ⟨fun x hx => ?_, fun x hx => ?_⟩, ⟨fun x hx => ?_, fun x => ?_⟩⟩
  · unfold cR at hR ⊢
    rw [A0 5 (by decide), A0 6 (by decide), A0 7 (by decide), A0 8 (by decide), A0 9 (by decide), A0 10 (by decide), A11]
    refine ⟨by omega, fun x hx => ?_⟩
    have r := hR.2 x hx
    rw [A8 x 1 (by decide) (by decide) (by decide) (by decide), A8 x 2 (by decide) (by decide) (by decide) (by decide), A8 x 3 (by decide) (by decide) (by decide) (by decide), A84, A8 x 5 (by decide) (by decide) (by decide) (by decide), A86]
    split <;> omega
  · unfold sB at hB ⊢
    rw [N0 0 (by decide), N0 5 (by decide), N0 8 (by decide), N0 16 (by decide), N0 17 (by decide), N0 18 (by decide), N0 19 (by decide), N0 20 (by decide), N0 21 (by decide), N22, N0 23 (by decide), A0 5 (by decide), A0 6 (by decide), A0 7 (by decide), A0 8 (by decide), A0 9 (by decide), A0 10 (by decide), A11, A0 12 (by decide), e22]
    exact ⟨hB.1, hB.2.1, hB.2.2.1, hB.2.2.2.1, hB.2.2.2.2.1, hB.2.2.2.2.2.1, e21, rfl, hB.2.2.2.2.2.2.2.2⟩
  · have r := hL.1 l hl
    rw [Nk 1 _ (by decide), Nk 2 _ (by decide), N3, A5, A5, A5, t5 l 1 (by decide), t5 l 2 (by decide), t54, r.2.2]
    exact ⟨r.1, r.2.1, rfl⟩
  · have r := hL.2.1 l hl
    rw [Nk 1 _ (by decide), Nk 2 _ (by decide), N3, if_neg (by omega)]
    exact r
  · rw [A5, t54] at hk
    rw [Nk 4 _ (by decide), A6]
    refine hL.2.2 l k hl ?_ h3
    split at hk <;> omega
  · have r := hD.1 x hx
    rw [Nk 6 _ (by decide), N7, A70, A71]
    refine ⟨r.1, ?_⟩
    by_cases q : x = d
    · rw [if_pos q, if_pos q]
      omega
    · rw [if_neg q, if_neg q]
      exact r.2
  · rw [Nk 6 _ (by decide)]
    exact hD.2 x hx
  · have r := hA.1 x hx
    rw [Nk 9 _ (by decide), Nk 10 _ (by decide), Nk 11 _ (by decide), N12, Nk 13 _ (by decide), N14, A8 x 1 (by decide) (by decide) (by decide) (by decide), A8 x 2 (by decide) (by decide) (by decide) (by decide), A8 x 3 (by decide) (by decide) (by decide) (by decide), A84, A8 x 5 (by decide) (by decide) (by decide) (by decide), A86]
    refine ⟨r.1, r.2.1, r.2.2.1, ?_, r.2.2.2.2.1, ?_⟩
    · split
      · rfl
      · exact r.2.2.2.1
    · split
      · exact e21
      · exact r.2.2.2.2.2
  · have r := hA.2 x hx
    rw [Nk 9 _ (by decide), Nk 10 _ (by decide), Nk 11 _ (by decide), N12, Nk 13 _ (by decide), N14, if_neg (by omega), if_neg (by omega)]
    exact r
  · have r := hS.1 x hx
    rw [A84, A87, A89, A8 x 1 (by decide) (by decide) (by decide) (by decide), A0 10 (by decide), N15]
    by_cases q : x = j
    · rw [if_pos q, if_pos q, if_pos q, if_pos q]
      omega
    · rw [if_neg q, if_neg q, if_neg q, if_neg q]
      exact r
  · rw [N15]
    split
    · omega
    · exact hS.2 x
theorem Sim.leave0 (h : Sim n C M) {j : Nat} (hj : j < n 8) (h9 : 0 ≤ C 8 j 9) : Sim n (yLeave0 C j) (up3 (up3 M 12 0 j 103) 7 0 (M 15 0 j).toNat (-1)) := by
  obtain ⟨⟨hW, h65, hR, hJ⟩, hB, hL, hD, hA, hS⟩ := h
  have s0 := hS.1 j hj
  obtain ⟨d, hd⟩ := Int.eq_ofNat_of_zero_le h9
  have e15 : M 15 0 j = (d : Int) := by rw [(s0.2.2.1 h9).2, hd]
  have hdl := (s0.2.2.1 h9).1
  rw [e15, Int.toNat_natCast]
  obtain ⟨A, eA⟩ : ∃ z, z = yLeave0 C j := ⟨_, rfl⟩
  rw [← eA]
  have A71 : ∀ x, A 7 x 1 = if x = d then 0 else C 7 x 1 := fun x => by
    rw [eA]
    unfold yLeave0
    rw [hd, Int.toNat_natCast, up3_n (by omega), up3_n (by omega)]
    by_cases q : x = d
    · rw [q, up3_s, if_pos rfl]
    · rw [up3_n (by omega), if_neg q]
  have A84 : ∀ x, A 8 x 4 = if x = j then 103 else C 8 x 4 := fun x => by
    rw [eA]
    unfold yLeave0
    by_cases q : x = j
    · rw [q, up3_s, if_pos rfl]
    · rw [up3_n (by omega), if_neg q, up3_n (by omega), up3_n (by omega)]
  have A89 : ∀ x, A 8 x 9 = if x = j then -1 else C 8 x 9 := fun x => by
    rw [eA]
    unfold yLeave0
    rw [up3_n (by omega)]
    by_cases q : x = j
    · rw [q, up3_s, if_pos rfl]
    · rw [up3_n (by omega), if_neg q, up3_n (by omega)]
  have Ak : ∀ κ x k, ¬ (κ = 7 ∧ k = 1) → ¬ (κ = 8 ∧ (k = 4 ∨ k = 9)) → A κ x k = C κ x k := fun κ x k q1 q2 => by
    rw [eA]
    unfold yLeave0
    rw [up3_n (by omega), up3_n (by omega), up3_n (by omega)]
  have R0 : A 0 = C 0 := by
    funext x k
    exact Ak 0 x k (by omega) (by omega)
  have R5 : A 5 = C 5 := by
    funext x k
    exact Ak 5 x k (by omega) (by omega)
  have R6 : A 6 = C 6 := by
    funext x k
    exact Ak 6 x k (by omega) (by omega)
  have AJ : cJ n A := by
    rw [eA]
    exact ((hJ.put (by omega)).put (by omega)).put (by omega)
  have AW : cW n A := by
    rw [eA]
    exact ((hW.put rfl).put rfl).put rfl
  have AR : cR n A := by
    rw [eA]
    exact yLeave0_R hR j
  clear eA
  obtain ⟨N, eN⟩ : ∃ z, z = up3 (up3 M 12 0 j 103) 7 0 d (-1) := ⟨_, rfl⟩
  rw [← eN]
  have N7 : ∀ x, N 7 0 x = if x = d then -1 else M 7 0 x := fun x => by
    rw [eN]
    by_cases q : x = d
    · rw [q, up3_s, if_pos rfl]
    · rw [up3_n (by omega), if_neg q, up3_n (by omega)]
  have N12 : ∀ x, N 12 0 x = if x = j then 103 else M 12 0 x := fun x => by
    rw [eN, up3_n (by omega)]
    by_cases q : x = j
    · rw [q, up3_s, if_pos rfl]
    · rw [up3_n (by omega), if_neg q]
  have Nk : ∀ κ x k, ¬ (κ = 7 ∨ κ = 12) → N κ x k = M κ x k := fun κ x k q => by rw [eN, up3_n (by omega), up3_n (by omega)]
  clear eN
  refine ⟨⟨AW, h65, AR, AJ⟩, ?_, ?_, ⟨fun x hx => ?_, fun x hx => ?_⟩, ⟨fun x hx => ?_, fun x hx => ?_⟩, ⟨fun x hx => ?_, fun x => ?_⟩⟩
  · unfold sB at hB ⊢
    simp only [Nk 0 _ _ (by decide), R0]
    exact hB
  · unfold sL at hL ⊢
    simp only [Nk 1 _ _ (by decide), Nk 2 _ _ (by decide), Nk 3 _ _ (by decide), Nk 4 _ _ (by decide), R5, R6]
    exact hL
  · have r := hD.1 x hx
    rw [Nk 6 _ _ (by decide), N7, A71, Ak 7 x 0 (by omega) (by omega)]
    refine ⟨r.1, ?_⟩
    by_cases q : x = d
    · rw [if_pos q, if_pos q]
      omega
    · rw [if_neg q, if_neg q]
      exact r.2
  · rw [Nk 6 _ _ (by decide)]
    exact hD.2 x hx
  · have r := hA.1 x hx
    rw [Nk 9 _ _ (by decide), Nk 10 _ _ (by decide), Nk 11 _ _ (by decide), N12, Nk 13 _ _ (by decide), Nk 14 _ _ (by decide), Ak 8 x 1 (by omega) (by omega), Ak 8 x 2 (by omega) (by omega), Ak 8 x 3 (by omega) (by omega), A84, Ak 8 x 5 (by omega) (by omega), Ak 8 x 6 (by omega) (by omega)]
    refine ⟨r.1, r.2.1, r.2.2.1, ?_, r.2.2.2.2⟩
    split
    · rfl
    · exact r.2.2.2.1
  · have r := hA.2 x hx
    rw [Nk 9 _ _ (by decide), Nk 10 _ _ (by decide), Nk 11 _ _ (by decide), N12, Nk 13 _ _ (by decide), Nk 14 _ _ (by decide), if_neg (by omega)]
    exact r
  · have r := hS.1 x hx
    rw [A84, Ak 8 x 7 (by omega) (by omega), A89, Ak 8 x 1 (by omega) (by omega), Ak 0 0 10 (by omega) (by omega), Nk 15 _ _ (by decide)]
    by_cases q : x = j
    · rw [if_pos q, if_pos q]
      subst q
      omega
    · rw [if_neg q, if_neg q]
      exact r
  · rw [Nk 15 _ _ (by decide)]
    exact hS.2 x
theorem Sim.paid (h : Sim n C M) (v : Int) : Sim n (up3 C 0 0 12 (C 0 0 12 + v)) (up3 M 0 0 23 (M 0 0 23 + v)) := by
  obtain ⟨⟨hW, h65, hR, hJ⟩, hB, hL, hD, hA, hS⟩ := h
  refine ⟨⟨hW.put rfl, h65, ?_, hJ.put0⟩, ?_, ?_, ?_, ?_, ?_⟩
  · unfold cR at hR ⊢
    simpa [up3] using hR
  · unfold sB at hB ⊢
    simp [up3]
    exact ⟨hB.1, hB.2.1, hB.2.2.1, hB.2.2.2.1, hB.2.2.2.2.1, hB.2.2.2.2.2.1, hB.2.2.2.2.2.2.1, hB.2.2.2.2.2.2.2.1, hB.2.2.2.2.2.2.2.2⟩
  · unfold sL at hL ⊢
    simpa [up3] using hL
  · unfold sD at hD ⊢
    simpa [up3] using hD
  · unfold sA at hA ⊢
    simpa [up3] using hA
  · unfold sW at hS ⊢
    simpa [up3] using hS
end ST3
