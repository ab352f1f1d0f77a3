/-! The class's store seen as the model's: what it would hold; Z says the rest. -/
def yVk (n : Nat → Nat) (c0 : Nat → Int) (c5 c6 c7 c8 : Nat → Nat → Int) (z : Nat → Nat → Int) : Nat → Nat → Int
  | 0, k => if k = 0 then (n 5 : Int) else if k = 5 then (n 7 : Int) else if k = 8 then (n 8 : Int) else if 16 ≤ k ∧ k ≤ 23 then c0 (k - 11) else z 0 k
  | 1, k => if k < n 5 then c5 k 1 else 0
  | 2, k => if k < n 5 then c5 k 2 else 0
  | 3, k => if k < n 5 then c5 k 4 else 0
  | 4, k => c6 (k / 3) (k % 3)
  | 6, k => if k < n 7 then c7 k 0 else 0
  | 9, k => if k < n 8 then c8 k 1 else 0
  | 10, k => if k < n 8 then c8 k 2 else 0
  | 11, k => if k < n 8 then c8 k 3 else 0
  | 12, k => if k < n 8 then c8 k 4 else 0
  | 13, k => if k < n 8 then c8 k 5 else 0
  | 14, k => if k < n 8 then c8 k 6 else 0
  | κ, k => z κ k
def yV (n : Nat → Nat) (C Z : ts_St) : ts_St := fun κ i k => if i = 0 then yVk n (C 0 0) (C 5) (C 6) (C 7) (C 8) (fun a b => Z a 0 b) κ k else Z κ i k
theorem yV_0 (n : Nat → Nat) (C Z : ts_St) (κ k : Nat) : yV n C Z κ 0 k = yVk n (C 0 0) (C 5) (C 6) (C 7) (C 8) (fun a b => Z a 0 b) κ k := if_pos rfl
theorem yV_lanes (n : Nat → Nat) (C Z : ts_St) : yV n C Z 0 0 0 = (n 5 : Int) := rfl
theorem yV_doors (n : Nat → Nat) (C Z : ts_St) : yV n C Z 0 0 5 = (n 7 : Int) := rfl
theorem yV_apps (n : Nat → Nat) (C Z : ts_St) : yV n C Z 0 0 8 = (n 8 : Int) := rfl
theorem yV_1 {n : Nat → Nat} {C Z : ts_St} {l : Nat} (h : l < n 5) : yV n C Z 1 0 l = C 5 l 1 := (yV_0 n C Z 1 l).trans (if_pos h)
theorem yV_2 {n : Nat → Nat} {C Z : ts_St} {l : Nat} (h : l < n 5) : yV n C Z 2 0 l = C 5 l 2 := (yV_0 n C Z 2 l).trans (if_pos h)
theorem yV_3 {n : Nat → Nat} {C Z : ts_St} {l : Nat} (h : l < n 5) : yV n C Z 3 0 l = C 5 l 4 := (yV_0 n C Z 3 l).trans (if_pos h)
theorem yV_1n {n : Nat → Nat} {C Z : ts_St} {l : Nat} (h : ¬ l < n 5) : yV n C Z 1 0 l = 0 := (yV_0 n C Z 1 l).trans (if_neg h)
theorem yV_3n {n : Nat → Nat} {C Z : ts_St} {l : Nat} (h : ¬ l < n 5) : yV n C Z 3 0 l = 0 := (yV_0 n C Z 3 l).trans (if_neg h)
theorem yV_4 (n : Nat → Nat) (C Z : ts_St) (k : Nat) : yV n C Z 4 0 k = C 6 (k / 3) (k % 3) := yV_0 n C Z 4 k
theorem yV_4s (n : Nat → Nat) (C Z : ts_St) {l j : Nat} (h : j < 3) : yV n C Z 4 0 (3 * l + j) = C 6 l j := by
  rw [yV_4, show (3 * l + j) / 3 = l by omega, show (3 * l + j) % 3 = j by omega]
theorem yV_10 {n : Nat → Nat} {C Z : ts_St} {l : Nat} (h : l < n 8) : yV n C Z 10 0 l = C 8 l 2 := (yV_0 n C Z 10 l).trans (if_pos h)
theorem yVk_6 {n : Nat → Nat} {c0 : Nat → Int} {c5 c6 c6' c7 c8 z : Nat → Nat → Int} {κ k : Nat} (h : ¬ κ = 4) : yVk n c0 c5 c6' c7 c8 z κ k = yVk n c0 c5 c6 c7 c8 z κ k := by
  match κ with
  | 4 => exact absurd rfl h
  | 0 => rfl
  | 1 => rfl
  | 2 => rfl
  | 3 => rfl
  | 5 => rfl
  | 6 => rfl
  | 7 => rfl
  | 8 => rfl
  | 9 => rfl
  | 10 => rfl
  | 11 => rfl
  | 12 => rfl
  | 13 => rfl
  | 14 => rfl
  | q + 15 => rfl
/-- equal but for what lies in a lane's array above its trailers -/
def cEq (n : Nat → Nat) (S S' : ts_St) : Prop := (∀ κ i k : Nat, ¬ κ = 6 → S' κ i k = S κ i k) ∧ ∀ i k : Nat, i < n 5 → (k : Int) < S 5 i 4 → k < 3 → S' 6 i k = S 6 i k
theorem cEq.rfl' (n : Nat → Nat) (S : ts_St) : cEq n S S := ⟨fun _ _ _ _ => rfl, fun _ _ _ _ _ => rfl⟩
theorem cEq.trans {n : Nat → Nat} {S S' S'' : ts_St} (h : cEq n S S') (h2 : cEq n S' S'') : cEq n S S'' :=
  ⟨fun κ i k q => (h2.1 κ i k q).trans (h.1 κ i k q), fun i k q1 q2 q3 => (h2.2 i k q1 (by rw [h.1 5 i 4 (by decide)]; exact q2) q3).trans (h.2 i k q1 q2 q3)⟩
theorem cEq.row {n : Nat → Nat} {S S' : ts_St} (h : cEq n S S') {κ : Nat} (hκ : ¬ κ = 6) : S' κ = S κ := by
  funext i k
  exact h.1 κ i k hκ
theorem cEq.V {n : Nat → Nat} {S S' : ts_St} (h : cEq n S S') (Z : ts_St) : mEq (yV n S Z) (yV n S' Z) := by
  refine ⟨fun κ i k q => ?_, fun l j q1 q2 => ?_⟩
  · unfold yV
    rw [h.row (κ := 0) (by decide), h.row (κ := 5) (by decide), h.row (κ := 7) (by decide), h.row (κ := 8) (by decide), yVk_6 q]
  · by_cases hl : l < n 5
    · rw [yV_3 hl] at q1
      rw [yV_4s _ _ _ q2, yV_4s _ _ _ q2]
      exact h.2 l j hl q1 q2
    · rw [yV_3n hl] at q1
      omega
theorem cEq.W {n : Nat → Nat} {S S' : ts_St} (h : cEq n S S') (hW : cW n S) : cW n S' := by
  unfold cW at hW ⊢
  rw [h.row (κ := 0) (by decide), h.row (κ := 1) (by decide), h.row (κ := 2) (by decide), h.row (κ := 3) (by decide), h.row (κ := 4) (by decide), h.row (κ := 5) (by decide), h.row (κ := 8) (by decide)]
  exact hW
theorem cEq.R {n : Nat → Nat} {S S' : ts_St} (h : cEq n S S') (hR : cR n S) : cR n S' := by
  unfold cR at hR ⊢
  rw [h.row (κ := 0) (by decide), h.row (κ := 8) (by decide)]
  exact hR
/-- the lanes: how many trailers; the trailers in them know their places, and the other way around -/
def cJ (n : Nat → Nat) (C : ts_St) : Prop := (∀ i : Nat, i < n 5 → (0 ≤ C 5 i 4 ∧ C 5 i 4 ≤ C 5 i 1 ∧ 1 ≤ C 5 i 1 ∧ C 5 i 1 ≤ 3) ∧ ∀ k : Nat, (k : Int) < C 5 i 4 → 0 ≤ C 6 i k ∧ C 6 i k < (n 8 : Int) ∧ C 8 (C 6 i k).toNat 7 = (i : Int) ∧ C 8 (C 6 i k).toNat 8 = (k : Int))
  ∧ ∀ j : Nat, j < n 8 → (C 8 j 2 = 100 ∨ C 8 j 2 = 99) ∧ (0 ≤ C 8 j 7 → C 8 j 7 < (n 5 : Int) ∧ 0 ≤ C 8 j 8 ∧ C 8 j 8 < C 5 (C 8 j 7).toNat 4 ∧ C 6 (C 8 j 7).toNat (C 8 j 8).toNat = (j : Int))
theorem cJ.of {n : Nat → Nat} {C C' : ts_St} (h : cJ n C) (e5 : ∀ i, C' 5 i 4 = C 5 i 4 ∧ C' 5 i 1 = C 5 i 1) (e6 : ∀ i k : Nat, i < n 5 → (k : Int) < C 5 i 4 → k < 3 → C' 6 i k = C 6 i k) (e8 : ∀ j, C' 8 j 2 = C 8 j 2 ∧ C' 8 j 7 = C 8 j 7 ∧ C' 8 j 8 = C 8 j 8) : cJ n C' := by
  refine ⟨fun i hi => ⟨?_, fun k hk => ?_⟩, fun j hj => ⟨?_, fun q => ?_⟩⟩
  · rw [(e5 i).1, (e5 i).2]
    exact (h.1 i hi).1
  · rw [(e5 i).1] at hk
    have h1 := (h.1 i hi).1
    rw [e6 i k hi hk (by omega), (e8 _).2.1, (e8 _).2.2]
    exact (h.1 i hi).2 k hk
  · rw [(e8 j).1]
    exact (h.2 j hj).1
  · rw [(e8 j).2.1] at q ⊢
    obtain ⟨h1, h2, h3, h4⟩ := (h.2 j hj).2 q
    have h5 := (h.1 (C 8 j 7).toNat (by omega)).1
    rw [(e8 j).2.2, (e5 _).1, e6 _ _ (by omega) (by omega) (by omega)]
    exact ⟨h1, h2, h3, h4⟩
theorem cEq.J {n : Nat → Nat} {S S' : ts_St} (h : cEq n S S') (hJ : cJ n S) : cJ n S' :=
  hJ.of (fun i => ⟨h.1 5 i 4 (by decide), h.1 5 i 1 (by decide)⟩) h.2 (fun j => ⟨h.1 8 j 2 (by decide), h.1 8 j 7 (by decide), h.1 8 j 8 (by decide)⟩)
theorem yExit_0 {n : Nat → Nat} {C : ts_St} (h : cJ n C) {a : Nat} (ha : a < n 5) (h1 : 1 ≤ C 5 a 4) : yExit C a 0 = C 6 a (C 5 a 4 - 1).toNat ∧ 0 ≤ yExit C a 0 ∧ yExit C a 0 < (n 8 : Int) ∧ C 8 (yExit C a 0).toNat 7 = (a : Int) ∧ C 8 (yExit C a 0).toNat 8 = C 5 a 4 - 1 := by
  have h2 := (h.1 a ha).1
  have e : yExit C a 0 = C 6 a (C 5 a 4 - 1).toNat := by
    rw [yExit_t (by omega), Int.sub_zero]
  have h3 := (h.1 a ha).2 (C 5 a 4 - 1).toNat (by omega)
  rw [e]
  exact ⟨rfl, h3.1, h3.2.1, h3.2.2.1, by omega⟩
theorem yExit_none {n : Nat → Nat} {C : ts_St} (h : cJ n C) {a : Nat} (ha : a < n 5) (h1 : ¬ 1 ≤ C 5 a 4) : yExit C a 0 = -1 := by
  have h2 := (h.1 a ha).1
  exact yExit_f (by omega)
theorem cJ_take {n : Nat → Nat} {C : ts_St} (h : cJ n C) {a : Nat} (ha : a < n 5) (h1 : 1 ≤ C 5 a 4) : cJ n (yTakeOut C a) ∧ yTakeOut C a 8 (yExit C a 0).toNat 7 = -1 := by
  obtain ⟨e, e0, e1, e2, e3⟩ := yExit_0 h ha h1
  have hT := yTakeOut_t e0
  obtain ⟨j, hj⟩ := Int.eq_ofNat_of_zero_le e0
  rw [hj, Int.toNat_natCast] at hT e2 e3
  have c5 : ∀ i, yTakeOut C a 5 i 4 = if i = a then C 5 a 4 - 1 else C 5 i 4 := by
    intro i
    rw [hT, up3_n (by omega)]
    by_cases q : i = a
    · rw [q, up3_s, if_pos rfl]
    · rw [up3_n (by omega), if_neg q]
  have c5' : ∀ i, yTakeOut C a 5 i 1 = C 5 i 1 := by
    intro i
    rw [hT, up3_n (by omega), up3_n (by omega)]
  have c6 : ∀ i k, yTakeOut C a 6 i k = C 6 i k := by
    intro i k
    rw [hT, up3_n (by omega), up3_n (by omega)]
  have c7 : ∀ x, yTakeOut C a 8 x 7 = if x = j then -1 else C 8 x 7 := by
    intro x
    rw [hT]
    by_cases q : x = j
    · rw [q, up3_s, if_pos rfl]
    · rw [up3_n (by omega), if_neg q, up3_n (by omega)]
  have c8 : ∀ x k, ¬ k = 7 → yTakeOut C a 8 x k = C 8 x k := by
    intro x k q
    rw [hT, up3_n (by omega), up3_n (by omega)]
  refine ⟨⟨fun i hi => ⟨?_, fun k hk => ?_⟩, fun x hx => ⟨?_, fun q => ?_⟩⟩, ?_⟩
  · rw [c5, c5']
    have h2 := (h.1 i hi).1
    split
    · rename_i q
      subst q
      omega
    · exact h2
  · rw [c5] at hk
    have hk2 : (k : Int) < C 5 i 4 := by
      split at hk
      · rename_i q
        subst q
        omega
      · exact hk
    obtain ⟨h3, h4, h5, h6⟩ := (h.1 i hi).2 k hk2
    rw [c6, c7, c8 _ 8 (by decide), if_neg]
    · exact ⟨h3, h4, h5, h6⟩
    · intro q
      rw [q] at h5 h6
      split at hk <;> omega
  · rw [c8 x 2 (by decide)]
    exact (h.2 x hx).1
  · rw [c7] at q ⊢
    split at q
    · omega
    · rename_i hxj
      rw [if_neg hxj]
      obtain ⟨h3, h4, h5, h6⟩ := (h.2 x hx).2 q
      rw [c8 x 8 (by decide), c6, c5]
      refine ⟨h3, h4, ?_, h6⟩
      split
      · rename_i hca
        rw [hca] at h5 h6
        have : ¬ (C 8 x 8).toNat = (C 5 a 4 - 1).toNat := by
          intro z
          rw [z, ← e] at h6
          omega
        omega
      · exact h5
  · rw [hj, Int.toNat_natCast, c7, if_pos rfl]
theorem cJ_bring {n : Nat → Nat} {C : ts_St} (h : cJ n C) {b j : Nat} (hb : b < n 5) (hj : j < n 8) (h7 : C 8 j 7 < 0) (h1 : C 5 b 4 < C 5 b 1) : cJ n (yBring C b j) := by
  have hcb := (h.1 b hb).1
  rw [yBring_t (by omega)]
  have c5 : ∀ i, yIn C b j 5 i 4 = if i = b then C 5 b 4 + 1 else C 5 i 4 := by
    intro i
    unfold yIn
    by_cases q : i = b
    · rw [q, up3_s, if_pos rfl]
    · rw [up3_n (by omega), if_neg q, up3_n (by omega), up3_n (by omega), up3_n (by omega)]
  have c5' : ∀ i, yIn C b j 5 i 1 = C 5 i 1 := by
    intro i
    unfold yIn
    rw [up3_n (by omega), up3_n (by omega), up3_n (by omega), up3_n (by omega)]
  have c6 : ∀ i k, yIn C b j 6 i k = if i = b ∧ k = (C 5 b 4).toNat then (j : Int) else C 6 i k := by
    intro i k
    unfold yIn
    rw [up3_n (by omega), up3_n (by omega), up3_n (by omega)]
    by_cases q : i = b ∧ k = (C 5 b 4).toNat
    · rw [if_pos q, q.1, q.2, up3_s]
    · rw [if_neg q, up3_n (by omega)]
  have c7 : ∀ x, yIn C b j 8 x 7 = if x = j then (b : Int) else C 8 x 7 := by
    intro x
    unfold yIn
    rw [up3_n (by omega), up3_n (by omega)]
    by_cases q : x = j
    · rw [q, up3_s, if_pos rfl]
    · rw [up3_n (by omega), if_neg q, up3_n (by omega)]
  have c8 : ∀ x, yIn C b j 8 x 8 = if x = j then C 5 b 4 else C 8 x 8 := by
    intro x
    unfold yIn
    rw [up3_n (by omega)]
    by_cases q : x = j
    · rw [q, up3_s, if_pos rfl]
    · rw [up3_n (by omega), if_neg q, up3_n (by omega), up3_n (by omega)]
  have c2 : ∀ x, yIn C b j 8 x 2 = C 8 x 2 := by
    intro x
    unfold yIn
    rw [up3_n (by omega), up3_n (by omega), up3_n (by omega), up3_n (by omega)]
  refine ⟨fun i hi => ⟨?_, fun k hk => ?_⟩, fun x hx => ⟨?_, fun q => ?_⟩⟩
  · rw [c5, c5']
    have h2 := (h.1 i hi).1
    split
    · rename_i q
      subst q
      omega
    · exact h2
  · rw [c5] at hk
    rw [c6, c7, c8]
    by_cases q : i = b ∧ k = (C 5 b 4).toNat
    · rw [if_pos q, Int.toNat_natCast, if_pos rfl, if_pos rfl]
      omega
    · rw [if_neg q]
      have hk2 : (k : Int) < C 5 i 4 := by
        split at hk
        · rename_i z
          subst z
          omega
        · exact hk
      obtain ⟨h3, h4, h5, h6⟩ := (h.1 i hi).2 k hk2
      have hne : ¬ (C 6 i k).toNat = j := by
        intro z
        rw [z] at h5
        omega
      rw [if_neg hne, if_neg hne]
      exact ⟨h3, h4, h5, h6⟩
  · rw [c2]
    exact (h.2 x hx).1
  · rw [c7] at q ⊢
    rw [c8, c5, c6]
    by_cases hx2 : x = j
    · rw [if_pos hx2, if_pos hx2, Int.toNat_natCast, if_pos rfl, if_pos ⟨rfl, rfl⟩]
      omega
    · rw [if_neg hx2] at q ⊢
      rw [if_neg hx2]
      obtain ⟨h3, h4, h5, h6⟩ := (h.2 x hx).2 q
      refine ⟨h3, h4, ?_, ?_⟩
      · split
        · rename_i z
          rw [z] at h5
          omega
        · exact h5
      · rw [if_neg]
        · exact h6
        · rintro ⟨z1, z2⟩
          rw [z1] at h5
          omega
