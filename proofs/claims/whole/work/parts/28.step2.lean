/-! The calls that move trailers. -/
theorem yBring_at {n : Nat → Nat} {C : ts_St} (h : cJ n C) {b j : Nat} (hb : b < n 5) (h1 : C 5 b 4 < C 5 b 1) : (∀ i, yBring C b j 5 i 4 = if i = b then C 5 b 4 + 1 else C 5 i 4) ∧ (∀ i k, ¬ k = 4 → yBring C b j 5 i k = C 5 i k) ∧ (∀ i k, yBring C b j 6 i k = if i = b ∧ k = (C 5 b 4).toNat then (j : Int) else C 6 i k) ∧ (∀ x, yBring C b j 8 x 7 = if x = j then (b : Int) else C 8 x 7) ∧ (∀ x, yBring C b j 8 x 8 = if x = j then C 5 b 4 else C 8 x 8) ∧ (∀ x k, ¬ k = 7 → ¬ k = 8 → yBring C b j 8 x k = C 8 x k) ∧ ∀ κ i k, ¬ (κ = 5 ∨ κ = 6 ∨ κ = 8) → yBring C b j κ i k = C κ i k := by
  have hcb := (h.1 b hb).1
  rw [yBring_t (by omega)]
  unfold yIn
  refine ⟨fun i => ?_, fun i k q => ?_, fun i k => ?_, fun x => ?_, fun x => ?_, fun x k q1 q2 => ?_, fun κ i k q => ?_⟩
  · by_cases q : i = b
    · rw [q, up3_s, if_pos rfl]
    · rw [up3_n (by omega), if_neg q, up3_n (by omega), up3_n (by omega), up3_n (by omega)]
  · rw [up3_n (by omega), up3_n (by omega), up3_n (by omega), up3_n (by omega)]
  · rw [up3_n (by omega), up3_n (by omega), up3_n (by omega)]
    by_cases q : i = b ∧ k = (C 5 b 4).toNat
    · rw [if_pos q, q.1, q.2, up3_s]
    · rw [if_neg q, up3_n (by omega)]
  · rw [up3_n (by omega), up3_n (by omega)]
    by_cases q : x = j
    · rw [q, up3_s, if_pos rfl]
    · rw [up3_n (by omega), if_neg q, up3_n (by omega)]
  · rw [up3_n (by omega)]
    by_cases q : x = j
    · rw [q, up3_s, if_pos rfl]
    · rw [up3_n (by omega), if_neg q, up3_n (by omega), up3_n (by omega)]
  · rw [up3_n (by omega), up3_n (by omega), up3_n (by omega), up3_n (by omega)]
  · rw [up3_n (by omega), up3_n (by omega), up3_n (by omega), up3_n (by omega)]
theorem yTake_at {n : Nat → Nat} {C : ts_St} (h : cJ n C) {a j : Nat} (ha : a < n 5) (h1 : 1 ≤ C 5 a 4) (hj : yExit C a 0 = (j : Int)) : (∀ i, yTakeOut C a 5 i 4 = if i = a then C 5 i 4 - 1 else C 5 i 4) ∧ (∀ i k, ¬ k = 4 → yTakeOut C a 5 i k = C 5 i k) ∧ (∀ x, yTakeOut C a 8 x 7 = if x = j then -1 else C 8 x 7) ∧ (∀ x k, ¬ k = 7 → yTakeOut C a 8 x k = C 8 x k) ∧ ∀ κ i k, ¬ (κ = 5 ∨ κ = 8) → yTakeOut C a κ i k = C κ i k := by
  rw [yTakeOut_t (by omega), hj, Int.toNat_natCast]
  refine ⟨fun i => ?_, fun i k q => ?_, fun x => ?_, fun x k q => ?_, fun κ i k q => ?_⟩
  · rw [up3_n (by omega)]
    by_cases q : i = a
    · rw [q, up3_s, if_pos rfl]
    · rw [up3_n (by omega), if_neg q]
  · rw [up3_n (by omega), up3_n (by omega)]
  · by_cases q : x = j
    · rw [q, up3_s, if_pos rfl]
    · rw [up3_n (by omega), if_neg q, up3_n (by omega)]
  · rw [up3_n (by omega), up3_n (by omega)]
  · rw [up3_n (by omega), up3_n (by omega)]
section ST2
variable {n : Nat → Nat} {C M : ts_St}
/-- places that the lanes' keeping does not look at -/
theorem cJ.put {κ i k : Nat} {v : Int} (h : cJ n C) (hk : ¬ (κ = 5 ∧ (k = 1 ∨ k = 4)) ∧ ¬ κ = 6 ∧ ¬ (κ = 8 ∧ (k = 2 ∨ k = 7 ∨ k = 8))) : cJ n (up3 C κ i k v) :=
  h.of (fun x => ⟨up3_n (by omega), up3_n (by omega)⟩) (fun x y _ _ _ => up3_n (by omega)) (fun x => ⟨up3_n (by omega), up3_n (by omega), up3_n (by omega)⟩)
theorem Sim.arr (h : Sim n C M) {i j : Nat} (hi : i < n 5) (hj : j < n 8) (h98 : C 8 j 4 = 98) (ht : yTake C i j) : Sim n (yArr C i j) (mComes (up3 (up3 M 12 0 j 121) 13 0 j (M 0 0 21)) (j : Int) (i : Int)) := by
  obtain ⟨⟨hW, h65, hR, hJ⟩, hB, hL, hD, hA, hS⟩ := h
  have s0 := hS.1 j hj
  have h7 : C 8 j 7 < 0 := by omega
  obtain ⟨b54, b5, b6, b87, b88, b8, bk⟩ := yBring_at hJ (j := j) hi ht.1
  have hci := (hJ.1 i hi).1
  have hcap := ht.1
  have hJ2 := cJ_bring hJ hi hj h7 ht.1
  have hW2 : cW n (yBring C i j) := yBring_W hW
  have a5 : ∀ x k, yArr C i j 5 x k = yBring C i j 5 x k := fun x k => by unfold yArr; rw [up3_n (by omega), up3_n (by omega)]
  have a8 : ∀ x k, ¬ k = 4 → ¬ k = 5 → yArr C i j 8 x k = yBring C i j 8 x k := fun x k q1 q2 => by unfold yArr; rw [up3_n (by omega), up3_n (by omega)]
  have a84 : ∀ x, yArr C i j 8 x 4 = if x = j then 121 else C 8 x 4 := fun x => by
    unfold yArr
    rw [up3_n (by omega)]
    by_cases q : x = j
    · rw [q, up3_s, if_pos rfl]
    · rw [up3_n (by omega), if_neg q, b8 x 4 (by decide) (by decide)]
  have a85 : ∀ x, yArr C i j 8 x 5 = if x = j then C 0 0 10 else C 8 x 5 := fun x => by
    unfold yArr
    by_cases q : x = j
    · rw [q, up3_s, if_pos rfl]
    · rw [up3_n (by omega), if_neg q, up3_n (by omega), b8 x 5 (by decide) (by decide)]
  have ak : ∀ κ x k, ¬ (κ = 5 ∨ κ = 6 ∨ κ = 8) → yArr C i j κ x k = C κ x k := fun κ x k q => by unfold yArr; rw [up3_n (by omega), up3_n (by omega), bk κ x k q]
  have a6 : ∀ x k, yArr C i j 6 x k = yBring C i j 6 x k := fun x k => by unfold yArr; rw [up3_n (by omega), up3_n (by omega)]
  obtain ⟨N, eN⟩ : ∃ z, z = mComes (up3 (up3 M 12 0 j 121) 13 0 j (M 0 0 21)) (j : Int) (i : Int) := ⟨_, rfl⟩
  rw [← eN]
  have n3 : ∀ l, N 3 0 l = if l = i then M 3 0 i + 1 else M 3 0 l := fun l => by
    rw [eN, mComes_3, Int.toNat_natCast, up3_n (by omega), up3_n (by omega), up3_n (by omega), up3_n (by omega)]
  have n4 : ∀ k, N 4 0 k = if k = (3 * (i : Int) + M 3 0 i).toNat then (j : Int) else M 4 0 k := fun k => by
    rw [eN, mComes_4, Int.toNat_natCast, up3_n (by omega), up3_n (by omega), up3_n (by omega), up3_n (by omega)]
  have n12 : ∀ x, N 12 0 x = if x = j then 121 else M 12 0 x := fun x => by
    rw [eN, mComes_n (by omega), up3_n (by omega)]
    by_cases q : x = j
    · rw [q, up3_s, if_pos rfl]
    · rw [up3_n (by omega), if_neg q]
  have n13 : ∀ x, N 13 0 x = if x = j then M 0 0 21 else M 13 0 x := fun x => by
    rw [eN, mComes_n (by omega)]
    by_cases q : x = j
    · rw [q, up3_s, if_pos rfl]
    · rw [up3_n (by omega), if_neg q, up3_n (by omega)]
  have nk : ∀ κ x k, ¬ (κ = 3 ∨ κ = 4 ∨ κ = 12 ∨ κ = 13) → N κ x k = M κ x k := fun κ x k q => by
    rw [eN, mComes_n (by omega), up3_n (by omega), up3_n (by omega)]
  have e3 := (hL.1 i hi).2.2
  refine ⟨⟨(hW2.put rfl).put rfl, h65, ?_, (hJ2.put (by omega)).put (by omega)⟩, ?_, ⟨fun l hl => ?_, fun l hl => ?_, fun l k hl hk h3 => ?_⟩, ?_, ⟨fun x hx => ?_, fun x hx => ?_⟩, ⟨fun x hx => ?_, fun x => ?_⟩⟩
  · unfold cR at hR ⊢
    simp only [ak 0 _ _ (by decide), a84, a85, a8 _ 1 (by decide) (by decide), a8 _ 2 (by decide) (by decide), a8 _ 3 (by decide) (by decide), a8 _ 6 (by decide) (by decide), b8 _ 1 (by decide) (by decide), b8 _ 2 (by decide) (by decide), b8 _ 3 (by decide) (by decide), b8 _ 6 (by decide) (by decide)]
    refine ⟨hR.1, fun x hx => ?_⟩
    have r := hR.2 x hx
    have r1 := hR.1
    split <;> omega
  · unfold sB at hB ⊢
    simp only [ak 0 _ _ (by decide), nk 0 _ _ (by decide)]
    exact hB
  · have r := hL.1 l hl
    rw [nk 1 _ _ (by decide), nk 2 _ _ (by decide), n3, a5, a5, a5, b54, b5 l 1 (by decide), b5 l 2 (by decide)]
    refine ⟨r.1, r.2.1, ?_⟩
    split
    · omega
    · exact r.2.2
  · have r := hL.2.1 l hl
    rw [nk 1 _ _ (by decide), nk 2 _ _ (by decide), n3, if_neg (by omega)]
    exact r
  · rw [a5, b54] at hk
    rw [n4, a6, b6]
    have hcl := (hJ.1 l hl).1
    by_cases q : l = i ∧ k = (C 5 i 4).toNat
    · rw [if_pos q, if_pos (by omega)]
    · rw [if_neg q, if_neg (by omega)]
      refine hL.2.2 l k hl ?_ h3
      split at hk
      · rename_i z
        subst z
        omega
      · exact hk
  · unfold sD at hD ⊢
    simp only [ak 7 _ _ (by decide), nk 6 _ _ (by decide), nk 7 _ _ (by decide)]
    exact hD
  · have r := hA.1 x hx
    rw [nk 9 _ _ (by decide), nk 10 _ _ (by decide), nk 11 _ _ (by decide), n12, n13, nk 14 _ _ (by decide), a84, a85, a8 x 1 (by decide) (by decide), a8 x 2 (by decide) (by decide), a8 x 3 (by decide) (by decide), a8 x 6 (by decide) (by decide), b8 x 1 (by decide) (by decide), b8 x 2 (by decide) (by decide), b8 x 3 (by decide) (by decide), b8 x 6 (by decide) (by decide)]
    have e21 := hB.2.2.2.2.2.2.1
    refine ⟨r.1, r.2.1, r.2.2.1, ?_, ?_, r.2.2.2.2.2⟩
    · split
      · rfl
      · exact r.2.2.2.1
    · split
      · exact e21
      · exact r.2.2.2.2.1
  · have r := hA.2 x hx
    rw [nk 9 _ _ (by decide), nk 10 _ _ (by decide), nk 11 _ _ (by decide), n12, n13, nk 14 _ _ (by decide), if_neg (by omega), if_neg (by omega)]
    exact r
  · have r := hS.1 x hx
    rw [a84, a8 x 7 (by decide) (by decide), a8 x 9 (by decide) (by decide), a8 x 1 (by decide) (by decide), ak 0 _ _ (by decide), b87, b8 x 9 (by decide) (by decide), b8 x 1 (by decide) (by decide), nk 15 _ _ (by decide)]
    by_cases q : x = j
    · rw [if_pos q, if_pos q]
      subst q
      omega
    · rw [if_neg q, if_neg q]
      exact r
  · rw [nk 15 _ _ (by decide)]
    exact hS.2 x
theorem Sim.mv (h : Sim n C M) {a b : Int} (ha : 0 ≤ a ∧ a < (n 5 : Int)) (hb : 0 ≤ b ∧ b < (n 5 : Int)) (hal : yAllow C a b) : Sim n (yMove C a b) (mMv M a b) := by
  have htop := mTop_eq (a := a) h.V h.VR.2.1 ha.1
  obtain ⟨⟨hW, h65, hR, hJ⟩, hB, hL, hD, hA, hS⟩ := h
  obtain ⟨j, hj, he, g7, g8, h1, h6, htk, hM, m54, m5, m6, m87, m88, m8, mk⟩ := yMove_at hW hJ ha hb hal
  have hab := ((yAllow_of hW ha hb).mp hal).1
  have hcb := (hJ.1 b.toNat (by omega)).1
  have t1 := htk.1
  have top : mTop M a = (j : Int) := by
    rw [htop (by rw [yV_3 (by omega)]; omega), yV_top hJ ha h1, he]
  refine ⟨⟨yMove_W hW, h65, ?_, yMove_J hW hJ ha hb hal⟩, ?_, ⟨fun l hl => ?_, fun l hl => ?_, fun l k hl hk h3 => ?_⟩, ?_, ⟨fun x hx => ?_, fun x hx => ?_⟩, ⟨fun x hx => ?_, fun x => ?_⟩⟩
  · unfold cR at hR ⊢
    simp only [mk 0 _ _ (by decide), m8 _ 1 (by decide) (by decide), m8 _ 2 (by decide) (by decide), m8 _ 3 (by decide) (by decide), m8 _ 4 (by decide) (by decide), m8 _ 5 (by decide) (by decide), m8 _ 6 (by decide) (by decide)]
    exact hR
  · unfold sB at hB ⊢
    rw [mMv_n (by omega), mMv_n (by omega), mMv_n (by omega), mMv_n (by omega), mMv_n (by omega), mMv_n (by omega), mMv_n (by omega), mMv_n (by omega), mMv_n (by omega), mMv_n (by omega), mMv_n (by omega)]
    simp only [mk 0 _ _ (by decide)]
    exact hB
  · have r := hL.1 l hl
    rw [mMv_n (by omega), mMv_n (by omega), mMv_3 hab ha.1 hb.1, m5 l 1 (by decide), m5 l 2 (by decide), m54, r.2.2]
    exact ⟨r.1, r.2.1, rfl⟩
  · have r := hL.2.1 l hl
    rw [mMv_n (by omega), mMv_n (by omega), mMv_3 hab ha.1 hb.1, if_neg (by omega), if_neg (by omega)]
    exact r
  · rw [m54] at hk
    rw [mMv_4 hab ha.1 hb.1, m6, (hL.1 b.toNat (by omega)).2.2, top]
    have hcl := (hJ.1 l hl).1
    by_cases z : l = b.toNat ∧ k = (C 5 b.toNat 4).toNat
    · rw [if_pos z, if_pos (by omega)]
    · rw [if_neg z, if_neg (by omega)]
      refine hL.2.2 l k hl ?_ h3
      split at hk
      · omega
      · split at hk
        · rename_i q
          subst q
          omega
        · exact hk
  · unfold sD at hD ⊢
    refine ⟨fun d hd => ?_, fun d hd => ?_⟩
    · rw [mMv_n (by omega), mMv_n (by omega), mk 7 _ _ (by decide), mk 7 _ _ (by decide)]
      exact hD.1 d hd
    · rw [mMv_n (by omega)]
      exact hD.2 d hd
  · rw [mMv_n (by omega), mMv_n (by omega), mMv_n (by omega), mMv_n (by omega), mMv_n (by omega), mMv_n (by omega), m8 x 1 (by decide) (by decide), m8 x 2 (by decide) (by decide), m8 x 3 (by decide) (by decide), m8 x 4 (by decide) (by decide), m8 x 5 (by decide) (by decide), m8 x 6 (by decide) (by decide)]
    exact hA.1 x hx
  · rw [mMv_n (by omega), mMv_n (by omega), mMv_n (by omega), mMv_n (by omega), mMv_n (by omega), mMv_n (by omega)]
    exact hA.2 x hx
  · have r := hS.1 x hx
    rw [m8 x 4 (by decide) (by decide), m87, m8 x 9 (by decide) (by decide), m8 x 1 (by decide) (by decide), mk 0 _ _ (by decide), mMv_n (by omega)]
    by_cases q : x = j
    · rw [if_pos q]
      subst q
      omega
    · rw [if_neg q]
      exact r
  · rw [mMv_n (by omega)]
    exact hS.2 x
/-- one move more is counted -/
theorem Sim.moved (h : Sim n C M) (hm : C 0 0 11 + 1 ≤ 100000) : Sim n (up3 C 0 0 11 (C 0 0 11 + 1)) (up3 M 0 0 22 (M 0 0 22 + 1)) := by
  obtain ⟨⟨hW, h65, hR, hJ⟩, hB, hL, hD, hA, hS⟩ := h
  refine ⟨⟨hW.put rfl, h65, ?_, hJ.put0⟩, ?_, ?_, ?_, ?_, ?_⟩
  · unfold cR at hR ⊢
    simp [up3]
    exact ⟨⟨hR.1.1, hR.1.2.1, hR.1.2.2.1, hR.1.2.2.2.1, hR.1.2.2.2.2.1, hR.1.2.2.2.2.2.1, by omega⟩, hR.2⟩
  · unfold sB at hB ⊢
    simp [up3]
    exact ⟨hB.1, hB.2.1, hB.2.2.1, hB.2.2.2.1, hB.2.2.2.2.1, hB.2.2.2.2.2.1, hB.2.2.2.2.2.2.1, hB.2.2.2.2.2.2.2.1, hB.2.2.2.2.2.2.2.2⟩
  · unfold sL at hL ⊢
    simpa [up3] using hL
  · unfold sD at hD ⊢
    simpa [up3] using hD
  · unfold sA at hA ⊢
    simpa [up3] using hA
  · unfold sW at hS ⊢
    simpa [up3] using hS
end ST2
