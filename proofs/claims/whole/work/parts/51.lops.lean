/-! Call by call: the helper's answer against the model's. -/
theorem mSum_c {S S' : ts_St} {k : Nat} (h : ∀ i : Nat, i < k → S' 3 0 i = S 3 0 i) : mSum S' k = mSum S k := by
  induction k with
  | zero => rfl
  | succ k ih => rw [mSum, mSum, ih (fun i q => h i (by omega)), h k (by omega)]
theorem mSum_at {S S' : ts_St} {i : Nat} (h : ∀ j : Nat, ¬ j = i → S' 3 0 j = S 3 0 j) : ∀ k : Nat, mSum S' k = mSum S k + (if i < k then S' 3 0 i - S 3 0 i else 0)
  | 0 => by simp [mSum]
  | k + 1 => by
    rw [mSum, mSum, mSum_at h k]
    by_cases q : i < k
    · rw [if_pos q, if_pos (by omega), h k (by omega)]
      omega
    · rw [if_neg q]
      by_cases q2 : i = k
      · subst q2
        rw [if_pos (by omega)]
        omega
      · rw [if_neg (by omega), h k (by omega)]
        omega
/-- what stands at the head of the loop behind q calls -/
def lSim (n : Nat → Nat) (C M : ts_St) (q : Nat) : Prop := Sim n C M ∧ C 0 0 10 ≤ 99 * (q : Int) ∧ C 0 0 11 ≤ (q : Int) ∧ mSum M (n 5) ≤ 6
/-- class and model have answered alike -/
def lOK (n : Nat → Nat) (am : ts_Am) (q : Nat) (k : Int) (u : ts_W) (nM : Nat → Nat) (amM : ts_Am) (pm : Int → ts_W → Prop) : Prop :=
  ∃ (n' : Nat → Nat) (am' : ts_Am) (C' : ts_St), u = (n', am', C') ∧ amK n am am' ∧ (∀ κ, n κ ≤ n' κ) ∧ ∀ (z : Int) (w : ts_W), pm z w → ∃ M' : ts_St, w = (nM, amM, M') ∧ mW nM M' ∧ M' 0 0 24 = k ∧ (k = 0 → C' 9 0 0 = z) ∧ lSim n' C' M' (q + 1)
section LOPS
variable {n nM : Nat → Nat} {am amM : ts_Am} {S M : ts_St} {q : Nat} {k : Int} {u : ts_W}
theorem Sim.out {C : ts_St} (h : Sim n C M) (v : Int) : Sim n (up3 C 9 0 0 v) M := by
  have e0 : up3 C 9 0 0 v 0 = C 0 := by funext a b; exact up3_n (by omega)
  have e5 : up3 C 9 0 0 v 5 = C 5 := by funext a b; exact up3_n (by omega)
  have e6 : up3 C 9 0 0 v 6 = C 6 := by funext a b; exact up3_n (by omega)
  have e7 : up3 C 9 0 0 v 7 = C 7 := by funext a b; exact up3_n (by omega)
  have e8 : up3 C 9 0 0 v 8 = C 8 := by funext a b; exact up3_n (by omega)
  obtain ⟨⟨hW, h65, hR, hJ⟩, hB, hL, hD, hA, hS⟩ := h
  refine ⟨⟨hW.put rfl, h65, ?_, hJ.put (by omega)⟩, ?_, ?_, ?_, ?_, ?_⟩
  · unfold cR at hR ⊢
    simp only [e0, e8]
    exact hR
  · unfold sB at hB ⊢
    simp only [e0]
    exact hB
  · unfold sL at hL ⊢
    simp only [e5, e6]
    exact hL
  · unfold sD at hD ⊢
    simp only [e7]
    exact hD
  · unfold sA at hA ⊢
    simp only [e8]
    exact hA
  · unfold sW at hS ⊢
    simp only [e0, e8]
    exact hS
theorem lSim.code {C : ts_St} (h : lSim n C M q) (K : Int) : lSim n C (up3 M 0 0 24 K) (q + 1) := by
  refine ⟨h.1.code K, by have := h.2.1; omega, by have := h.2.2.1; omega, ?_⟩
  rw [mSum_c (S := M) (fun i _ => up3_n (by omega))]
  exact h.2.2.2
theorem lOK.err {P : Int → ts_W → Prop} {K : Int} (hs : lSim n S M q) (hM : mW nM M) (hk : K = k) (h0 : ¬ k = 0) : lOK n am q k (n, am, S) nM amM (fun z w => (¬ K = 0 ∧ w = (nM, amM, up3 M 0 0 24 K)) ∨ (K = 0 ∧ P z w)) := by
  subst hk
  refine ⟨n, am, S, rfl, amK.rfl' n am, fun _ => Nat.le_refl _, fun z w hp => ?_⟩
  rcases hp with ⟨-, rfl⟩ | ⟨h, -⟩
  · exact ⟨_, rfl, hM.put rfl, up3_s _ _ _ _ _, fun z => absurd z h0, hs.code K⟩
  · exact absurd h h0
theorem lOK.ok {n' : Nat → Nat} {am' : ts_Am} {C1 G : ts_St} {K v R : Int} (hK : K = 0) (hv : v = R) (hS : Sim n' C1 G) (h21 : G 0 0 21 ≤ 99 * (q : Int) + 99) (h22 : G 0 0 22 ≤ (q : Int) + 1) (h24 : G 0 0 24 = 0) (hsum : mSum G (n' 5) ≤ 6) (hW : mW nM G) (ha : amK n am am') (hn : ∀ κ, n κ ≤ n' κ) :
    lOK n am q 0 (n', am', up3 C1 9 0 0 v) nM amM (fun z w => (¬ K = 0 ∧ w = (nM, amM, up3 M 0 0 24 K)) ∨ (K = 0 ∧ z = R ∧ w = (nM, amM, G))) := by
  refine ⟨n', am', _, rfl, ha, hn, fun z w hp => ?_⟩
  rcases hp with ⟨h, -⟩ | ⟨-, rfl, rfl⟩
  · exact absurd hK h
  · have b := hS.2.1.2.2.2.2.2.2
    refine ⟨_, rfl, hW, h24, fun _ => (up3_s _ _ _ _ _).trans hv, hS.out v, ?_, ?_, hsum⟩
    · rw [up3_n (by omega), ← b.1]
      push_cast
      omega
    · rw [up3_n (by omega), ← b.2.1]
      push_cast
      omega
theorem lSim.m21 (h : lSim n S M q) : M 0 0 21 = S 0 0 10 ∧ M 0 0 22 = S 0 0 11 := ⟨h.1.2.1.2.2.2.2.2.2.1, h.1.2.1.2.2.2.2.2.2.2.1⟩
theorem lOK.same {K v R : Int} (hs : lSim n S M q) (hM : mW nM M) (hK : K = 0) (hv : v = R) : lOK n am q 0 (n, am, up3 S 9 0 0 v) nM amM (fun z w => (¬ K = 0 ∧ w = (nM, amM, up3 M 0 0 24 K)) ∨ (K = 0 ∧ z = R ∧ w = (nM, amM, up3 M 0 0 24 0))) := by
  have h := hs.m21
  have c := (hs.code 0).2.2.2
  have h1 := hs.2.1
  have h2 := hs.2.2.1
  exact lOK.ok hK hv (hs.1.code 0) (by rw [up3_n (by omega)]; omega) (by rw [up3_n (by omega)]; omega) (up3_s _ _ _ _ _) c (hM.put rfl) (amK.rfl' n am) (fun _ => Nat.le_refl _)
theorem up_le (a b : Nat) (h : n a ≤ b) : ∀ κ, n κ ≤ upN n a b κ := fun κ => by
  unfold upN
  split
  · rename_i e
    rw [e]
    exact h
  · exact Nat.le_refl _
theorem op_addLane (hs : lSim n S M q) (hM : mW nM M) (hq : q < 600) (a : Int) (b : Int) (h : (k = 0 ∧ ((1 ≤ a ∧ a ≤ 3) ∧ n 5 < 4) ∧ ∃ am', amK n am am' ∧ u = (upN (upN n 5 (n 5 + 1)) 6 (n 5 + 1), am', up3 (yAddL n S a b) 9 0 0 ((n 5 : Int)))) ∨ (k = 1 ∧ (¬ (1 ≤ a ∧ a ≤ 3)) ∧ u = (n, am, S)) ∨ (k = 2 ∧ ((1 ≤ a ∧ a ≤ 3) ∧ ¬ n 5 < 4) ∧ u = (n, am, S))) : lOK n am q k u nM amM (fun z w => (¬ kAddLane M a = 0 ∧ w = (nM, amM, up3 M 0 0 24 (kAddLane M a))) ∨ (kAddLane M a = 0 ∧ z = M 0 0 0 ∧ w = (nM, amM, gAddLane M a b))) := by
  have m := hs.m21
  have t1 := hs.2.1
  have t2 := hs.2.2.1
  have t3 := hs.2.2.2
  rcases h with ⟨rfl, hc, am', hk, rfl⟩ | ⟨rfl, hc, rfl⟩ | ⟨rfl, hc, rfl⟩
  · have e := (hs.1.code 0).addL (a := a) (b := b) hc.1 hc.2
    rw [show up3 (up3 (up3 (up3 M 0 0 24 0) 1 0 (n 5) a) 2 0 (n 5) b) 0 0 0 ((n 5 : Int) + 1) = gAddLane M a b by unfold gAddLane; rw [hs.1.2.1.1.1, Int.toNat_natCast]] at e
    have z3 : mSum (gAddLane M a b) (n 5 + 1) ≤ 6 := by
      rw [mSum_c (S := M) (fun i _ => by simp [gAddLane, up3]), mSum, (hs.1.2.2.1.2.1 (n 5) (by omega)).2.2]
      omega
    exact lOK.ok (M := M) (by rw [hs.1.oAddLane]; (repeat' split) <;> first | rfl | omega | (exfalso; omega)) hs.1.2.1.1.1.symm e (by simp [gAddLane, mComes, up3]; omega) (by simp [gAddLane, mComes, up3]; omega) (by simp [gAddLane, mComes, up3]) (by rw [show upN (upN n 5 (n 5 + 1)) 6 (n 5 + 1) 5 = n 5 + 1 by simp [upN]]; exact z3) (by unfold gAddLane; exact ((((hM.put rfl).put rfl).put rfl).put rfl)) hk (fun κ => Nat.le_trans (up_le 5 (n 5 + 1) (Nat.le_succ _) κ) (up_le 6 (n 5 + 1) (by simp [upN]; have := hs.1.1.2.1; omega) κ))
  · exact lOK.err hs hM (by rw [hs.1.oAddLane]; (repeat' split) <;> first | rfl | omega | (exfalso; omega)) (by decide)
  · exact lOK.err hs hM (by rw [hs.1.oAddLane]; (repeat' split) <;> first | rfl | omega | (exfalso; omega)) (by decide)
theorem op_addDoor (hs : lSim n S M q) (hM : mW nM M) (hq : q < 600) (a : Int) (h : (k = 0 ∧ ((a = 100 ∨ a = 99 ∨ a = 98) ∧ n 7 < 4) ∧ ∃ am', amK n am am' ∧ u = (upN n 7 (n 7 + 1), am', up3 (yAddD n S a) 9 0 0 ((n 7 : Int)))) ∨ (k = 1 ∧ (¬ (a = 100 ∨ a = 99 ∨ a = 98)) ∧ u = (n, am, S)) ∨ (k = 2 ∧ ((a = 100 ∨ a = 99 ∨ a = 98) ∧ ¬ n 7 < 4) ∧ u = (n, am, S))) : lOK n am q k u nM amM (fun z w => (¬ kAddDoor M a = 0 ∧ w = (nM, amM, up3 M 0 0 24 (kAddDoor M a))) ∨ (kAddDoor M a = 0 ∧ z = M 0 0 5 ∧ w = (nM, amM, gAddDoor M a))) := by
  have m := hs.m21
  have t1 := hs.2.1
  have t2 := hs.2.2.1
  have t3 := hs.2.2.2
  rcases h with ⟨rfl, hc, am', hk, rfl⟩ | ⟨rfl, hc, rfl⟩ | ⟨rfl, hc, rfl⟩
  · have e := (hs.1.code 0).addD (a := a) hc.2
    rw [show up3 (up3 (up3 (up3 M 0 0 24 0) 6 0 (n 7) a) 7 0 (n 7) (-1)) 0 0 5 ((n 7 : Int) + 1) = gAddDoor M a by unfold gAddDoor; rw [hs.1.2.1.1.2.1, Int.toNat_natCast]] at e
    exact lOK.ok (M := M) (by rw [hs.1.oAddDoor]; (repeat' split) <;> first | rfl | omega | (exfalso; omega)) hs.1.2.1.1.2.1.symm e (by simp [gAddDoor, mComes, up3]; omega) (by simp [gAddDoor, mComes, up3]; omega) (by simp [gAddDoor, mComes, up3]) (by rw [show upN n 7 (n 7 + 1) 5 = n 5 by simp [upN], mSum_c (S := M) (fun i _ => by simp [gAddDoor, up3])]; exact t3) (by unfold gAddDoor; exact ((((hM.put rfl).put rfl).put rfl).put rfl)) hk (up_le 7 (n 7 + 1) (Nat.le_succ _))
  · exact lOK.err hs hM (by rw [hs.1.oAddDoor]; (repeat' split) <;> first | rfl | omega | (exfalso; omega)) (by decide)
  · exact lOK.err hs hM (by rw [hs.1.oAddDoor]; (repeat' split) <;> first | rfl | omega | (exfalso; omega)) (by decide)
theorem op_setTolerance (hs : lSim n S M q) (hM : mW nM M) (hq : q < 600) (a : Int) (h : (k = 0 ∧ (0 ≤ a ∧ a ≤ 9) ∧ u = (n, am, up3 (up3 S 0 0 5 a) 9 0 0 (S 0 0 5))) ∨ (k = 1 ∧ (¬ (0 ≤ a ∧ a ≤ 9)) ∧ u = (n, am, S))) : lOK n am q k u nM amM (fun z w => (¬ kSetTol a = 0 ∧ w = (nM, amM, up3 M 0 0 24 (kSetTol a))) ∨ (kSetTol a = 0 ∧ z = M 0 0 16 ∧ w = (nM, amM, gSetTol M a))) := by
  have m := hs.m21
  have t1 := hs.2.1
  have t2 := hs.2.2.1
  have t3 := hs.2.2.2
  rcases h with ⟨rfl, hc, rfl⟩ | ⟨rfl, hc, rfl⟩
  · exact lOK.ok (M := M) (by unfold kSetTol; (repeat' split) <;> first | rfl | omega | (exfalso; omega)) hs.1.2.1.2.1.symm ((hs.1.code 0).tol hc) (by simp [gSetTol, mComes, up3]; omega) (by simp [gSetTol, mComes, up3]; omega) (by simp [gSetTol, mComes, up3]) (by rw [mSum_c (S := M) (fun i _ => by simp [gSetTol, up3])]; exact t3) (by unfold gSetTol; exact ((hM.put rfl).put rfl)) (amK.rfl' n am) (fun _ => Nat.le_refl _)
  · exact lOK.err hs hM (by unfold kSetTol; (repeat' split) <;> first | rfl | omega | (exfalso; omega)) (by decide)
theorem op_setCharges (hs : lSim n S M q) (hM : mW nM M) (hq : q < 600) (a : Int) (b : Int) (d : Int) (v : Int) (h : (k = 0 ∧ ((0 ≤ a ∧ a ≤ 24) ∧ (0 ≤ b ∧ b ≤ 99) ∧ (0 ≤ d ∧ d ≤ 24) ∧ 0 ≤ v ∧ v ≤ 99) ∧ u = (n, am, up3 (up3 (up3 (up3 (up3 S 0 0 6 a) 0 0 7 b) 0 0 8 d) 0 0 9 v) 9 0 0 (S 0 0 6))) ∨ (k = 1 ∧ (¬ ((0 ≤ a ∧ a ≤ 24) ∧ (0 ≤ b ∧ b ≤ 99) ∧ (0 ≤ d ∧ d ≤ 24) ∧ 0 ≤ v ∧ v ≤ 99)) ∧ u = (n, am, S))) : lOK n am q k u nM amM (fun z w => (¬ kSetChg a b d v = 0 ∧ w = (nM, amM, up3 M 0 0 24 (kSetChg a b d v))) ∨ (kSetChg a b d v = 0 ∧ z = M 0 0 17 ∧ w = (nM, amM, gSetChg M a b d v))) := by
  have m := hs.m21
  have t1 := hs.2.1
  have t2 := hs.2.2.1
  have t3 := hs.2.2.2
  rcases h with ⟨rfl, hc, rfl⟩ | ⟨rfl, hc, rfl⟩
  · exact lOK.ok (M := M) (by unfold kSetChg; (repeat' split) <;> first | rfl | omega | (exfalso; omega)) hs.1.2.1.2.2.1.symm ((hs.1.code 0).chg hc) (by simp [gSetChg, mComes, up3]; omega) (by simp [gSetChg, mComes, up3]; omega) (by simp [gSetChg, mComes, up3]) (by rw [mSum_c (S := M) (fun i _ => by simp [gSetChg, up3])]; exact t3) (by unfold gSetChg; exact (((((hM.put rfl).put rfl).put rfl).put rfl).put rfl)) (amK.rfl' n am) (fun _ => Nat.le_refl _)
  · exact lOK.err hs hM (by unfold kSetChg; (repeat' split) <;> first | rfl | omega | (exfalso; omega)) (by decide)
theorem op_book (hs : lSim n S M q) (hM : mW nM M) (hq : q < 600) (a : Int) (b : Int) (d : Int) (h : (k = 0 ∧ (((S 0 0 10 ≤ a ∧ a ≤ 999) ∧ (b = 100 ∨ b = 99) ∧ 1 ≤ d ∧ d ≤ 9) ∧ n 8 < 40) ∧ ∃ am', amK n am am' ∧ u = (upN n 8 (n 8 + 1), am', up3 (yBookA n S a b d) 9 0 0 ((n 8 : Int)))) ∨ (k = 1 ∧ (¬ ((S 0 0 10 ≤ a ∧ a ≤ 999) ∧ (b = 100 ∨ b = 99) ∧ 1 ≤ d ∧ d ≤ 9)) ∧ u = (n, am, S)) ∨ (k = 2 ∧ (((S 0 0 10 ≤ a ∧ a ≤ 999) ∧ (b = 100 ∨ b = 99) ∧ 1 ≤ d ∧ d ≤ 9) ∧ ¬ n 8 < 40) ∧ u = (n, am, S))) : lOK n am q k u nM amM (fun z w => (¬ kBook M a b d = 0 ∧ w = (nM, amM, up3 M 0 0 24 (kBook M a b d))) ∨ (kBook M a b d = 0 ∧ z = M 0 0 8 ∧ w = (nM, amM, gBook M a b d))) := by
  have m := hs.m21
  have t1 := hs.2.1
  have t2 := hs.2.2.1
  have t3 := hs.2.2.2
  rcases h with ⟨rfl, hc, am', hk, rfl⟩ | ⟨rfl, hc, rfl⟩ | ⟨rfl, hc, rfl⟩
  · have e := (hs.1.code 0).book (a := a) (b := b) (d := d) hc.1.1 hc.1.2.1 hc.1.2.2 hc.2
    rw [show up3 (up3 (up3 (up3 (up3 (up3 M 0 0 24 0) 9 0 (n 8) a) 10 0 (n 8) b) 11 0 (n 8) d) 12 0 (n 8) 98) 0 0 8 ((n 8 : Int) + 1) = gBook M a b d by unfold gBook; rw [hs.1.2.1.1.2.2, Int.toNat_natCast]] at e
    exact lOK.ok (M := M) (by rw [hs.1.oBook]; (repeat' split) <;> first | rfl | omega | (exfalso; omega)) hs.1.2.1.1.2.2.symm e (by simp [gBook, mComes, up3]; omega) (by simp [gBook, mComes, up3]; omega) (by simp [gBook, mComes, up3]) (by rw [show upN n 8 (n 8 + 1) 5 = n 5 by simp [upN], mSum_c (S := M) (fun i _ => by simp [gBook, up3])]; exact t3) (by unfold gBook; exact ((((((hM.put rfl).put rfl).put rfl).put rfl).put rfl).put rfl)) hk (up_le 8 (n 8 + 1) (Nat.le_succ _))
  · exact lOK.err hs hM (by rw [hs.1.oBook]; (repeat' split) <;> first | rfl | omega | (exfalso; omega)) (by decide)
  · exact lOK.err hs hM (by rw [hs.1.oBook]; (repeat' split) <;> first | rfl | omega | (exfalso; omega)) (by decide)
theorem op_arrive (hs : lSim n S M q) (hM : mW nM M) (hq : q < 600) (x : Int) (y : Int) (h : (k = 0 ∧ ((0 ≤ x ∧ x < (n 8 : Int)) ∧ (0 ≤ y ∧ y < (n 5 : Int)) ∧ S 8 x.toNat 4 = 98 ∧ ySum S (S 1 0 1).toNat < 6 ∧ yTake S y.toNat x.toNat) ∧ u = (n, am, up3 (yArr S y.toNat x.toNat) 9 0 0 (yPunc (yArr S y.toNat x.toNat) x.toNat))) ∨ (k = 1 ∧ (¬ (0 ≤ x ∧ x < (n 8 : Int))) ∧ u = (n, am, S)) ∨ (k = 2 ∧ ((0 ≤ x ∧ x < (n 8 : Int)) ∧ ¬ (0 ≤ y ∧ y < (n 5 : Int))) ∧ u = (n, am, S)) ∨ (k = 3 ∧ ((0 ≤ x ∧ x < (n 8 : Int)) ∧ (0 ≤ y ∧ y < (n 5 : Int)) ∧ (¬ S 8 x.toNat 4 = 98 ∨ 6 ≤ ySum S (S 1 0 1).toNat)) ∧ u = (n, am, S)) ∨ (k = 4 ∧ ((0 ≤ x ∧ x < (n 8 : Int)) ∧ (0 ≤ y ∧ y < (n 5 : Int)) ∧ S 8 x.toNat 4 = 98 ∧ ySum S (S 1 0 1).toNat < 6 ∧ ¬ yTake S y.toNat x.toNat) ∧ u = (n, am, S))) : lOK n am q k u nM amM (fun z w => (¬ kArrive M x y = 0 ∧ w = (nM, amM, up3 M 0 0 24 (kArrive M x y))) ∨ (kArrive M x y = 0 ∧ z = mPunc (gArrive M x y) x.toNat ∧ w = (nM, amM, gArrive M x y))) := by
  have m := hs.m21
  have t1 := hs.2.1
  have t2 := hs.2.2.1
  have t3 := hs.2.2.2
  rcases h with ⟨rfl, hc, rfl⟩ | ⟨rfl, hc, rfl⟩ | ⟨rfl, hc, rfl⟩ | ⟨rfl, hc, rfl⟩ | ⟨rfl, hc, rfl⟩
  · rw [hs.1.1.1.cn.2.2, Int.toNat_natCast] at hc
    have e := hs.1.arrive hc.1 hc.2.1 hc.2.2.1 hc.2.2.2.2
    have e3 : mSum (gArrive M x y) (n 5) ≤ 6 := by
      rw [mSum_at (S := M) (i := y.toNat) (fun j hj => by simp [gArrive, mComes, up3, hj])]
      have := hs.1.sum
      split
      · simp only [gArrive, mComes, up3]
        simp
        omega
      · omega
    exact lOK.ok (M := M) ((hs.1.oArrive x y).2.2.2 hc.1 hc.2.1 hc.2.2.1 hc.2.2.2.1 |>.1 hc.2.2.2.2) e.2.symm e.1 (by simp [gArrive, mComes, up3]; omega) (by simp [gArrive, mComes, up3]; omega) (by simp [gArrive, mComes, up3]) e3 (by unfold gArrive mComes; exact (((((hM.put rfl).put rfl).put rfl).put rfl).put rfl)) (amK.rfl' n am) (fun _ => Nat.le_refl _)
  · exact lOK.err hs hM ((hs.1.oArrive x y).1 hc) (by decide)
  · exact lOK.err hs hM ((hs.1.oArrive x y).2.1 hc.1 hc.2) (by decide)
  · exact lOK.err hs hM (by rw [hs.1.1.1.cn.2.2, Int.toNat_natCast] at hc; exact (hs.1.oArrive x y).2.2.1 hc.1 hc.2.1 hc.2.2 (by rw [← hs.1.sum]; exact t3)) (by decide)
  · exact lOK.err hs hM (by rw [hs.1.1.1.cn.2.2, Int.toNat_natCast] at hc; exact ((hs.1.oArrive x y).2.2.2 hc.1 hc.2.1 hc.2.2.1 hc.2.2.2.1).2 hc.2.2.2.2) (by decide)
theorem op_state (hs : lSim n S M q) (hM : mW nM M) (hq : q < 600) (x : Int) (h : (k = 0 ∧ (0 ≤ x ∧ x < (n 8 : Int)) ∧ u = (n, am, up3 (S) 9 0 0 (S 8 x.toNat 4))) ∨ (k = 1 ∧ (¬ (0 ≤ x ∧ x < (n 8 : Int))) ∧ u = (n, am, S))) : lOK n am q k u nM amM (fun z w => (¬ kNone M x = 0 ∧ w = (nM, amM, up3 M 0 0 24 (kNone M x))) ∨ (kNone M x = 0 ∧ z = M 12 0 x.toNat ∧ w = (nM, amM, m0 M 0))) := by
  have m := hs.m21
  rcases h with ⟨rfl, hc, rfl⟩ | ⟨rfl, hc, rfl⟩
  · exact lOK.same hs hM (by rw [hs.1.oNone]; (repeat' split) <;> first | rfl | omega | (exfalso; omega)) (hs.1.2.2.2.2.1.1 x.toNat (by omega)).2.2.2.1.symm
  · exact lOK.err hs hM (by rw [hs.1.oNone]; (repeat' split) <;> first | rfl | omega | (exfalso; omega)) (by decide)
theorem op_punctuality (hs : lSim n S M q) (hM : mW nM M) (hq : q < 600) (x : Int) (h : (k = 0 ∧ ((0 ≤ x ∧ x < (n 8 : Int)) ∧ yCame S x.toNat) ∧ u = (n, am, up3 (S) 9 0 0 (yPunc S x.toNat))) ∨ (k = 1 ∧ (¬ (0 ≤ x ∧ x < (n 8 : Int))) ∧ u = (n, am, S)) ∨ (k = 2 ∧ ((0 ≤ x ∧ x < (n 8 : Int)) ∧ ¬ yCame S x.toNat) ∧ u = (n, am, S))) : lOK n am q k u nM amM (fun z w => (¬ kNotCome M x = 0 ∧ w = (nM, amM, up3 M 0 0 24 (kNotCome M x))) ∨ (kNotCome M x = 0 ∧ z = mPunc M x.toNat ∧ w = (nM, amM, m0 M 0))) := by
  have m := hs.m21
  rcases h with ⟨rfl, hc, rfl⟩ | ⟨rfl, hc, rfl⟩ | ⟨rfl, hc, rfl⟩
  · try unfold yCame at hc
    exact lOK.same hs hM (by rw [hs.1.oNotCome]; (repeat' split) <;> first | rfl | omega | (exfalso; omega)) (hs.1.punc (by omega)).symm
  · try unfold yCame at hc
    exact lOK.err hs hM (by rw [hs.1.oNotCome]; (repeat' split) <;> first | rfl | omega | (exfalso; omega)) (by decide)
  · try unfold yCame at hc
    exact lOK.err hs hM (by rw [hs.1.oNotCome]; (repeat' split) <;> first | rfl | omega | (exfalso; omega)) (by decide)
theorem op_nextBooked (hs : lSim n S M q) (hM : mW nM M) (hq : q < 600) (h : (k = 0 ∧ 0 ≤ yNext S (n 8) ∧ u = (n, am, up3 (S) 9 0 0 (yNext S (n 8)))) ∨ (k = 1 ∧ (yNext S (n 8) < 0) ∧ u = (n, am, S))) : lOK n am q k u nM amM (fun z w => (¬ kNext M = 0 ∧ w = (nM, amM, up3 M 0 0 24 (kNext M))) ∨ (kNext M = 0 ∧ z = mNext M (M 0 0 8).toNat ∧ w = (nM, amM, m0 M 0))) := by
  have m := hs.m21
  rcases h with ⟨rfl, hc, rfl⟩ | ⟨rfl, hc, rfl⟩
  · exact lOK.same hs hM (by unfold kNext; rw [hs.1.2.1.1.2.2, Int.toNat_natCast, hs.1.next]; (repeat' split) <;> first | rfl | omega | (exfalso; omega)) (by rw [hs.1.2.1.1.2.2, Int.toNat_natCast, hs.1.next])
  · exact lOK.err hs hM (by unfold kNext; rw [hs.1.2.1.1.2.2, Int.toNat_natCast, hs.1.next]; (repeat' split) <;> first | rfl | omega | (exfalso; omega)) (by decide)
theorem op_shift (hs : lSim n S M q) (hM : mW nM M) (hq : q < 600) (x : Int) (y : Int) (h : (k = 0 ∧ ((0 ≤ x ∧ x < (n 8 : Int)) ∧ (0 ≤ y ∧ y < (n 5 : Int)) ∧ (0 ≤ S 8 x.toNat 7 ∧ yBefore S (S 8 x.toNat 7).toNat x.toNat = 0) ∧ ¬ S 8 x.toNat 7 = y ∧ yTake S y.toNat x.toNat) ∧ u = (n, am, up3 (yShift S (S 8 x.toNat 7).toNat y.toNat x.toNat) 9 0 0 (S 0 0 11 + 1))) ∨ (k = 1 ∧ (¬ (0 ≤ x ∧ x < (n 8 : Int))) ∧ u = (n, am, S)) ∨ (k = 2 ∧ ((0 ≤ x ∧ x < (n 8 : Int)) ∧ ¬ (0 ≤ y ∧ y < (n 5 : Int))) ∧ u = (n, am, S)) ∨ (k = 3 ∧ ((0 ≤ x ∧ x < (n 8 : Int)) ∧ (0 ≤ y ∧ y < (n 5 : Int)) ∧ ¬ (0 ≤ S 8 x.toNat 7 ∧ yBefore S (S 8 x.toNat 7).toNat x.toNat = 0)) ∧ u = (n, am, S)) ∨ (k = 4 ∧ ((0 ≤ x ∧ x < (n 8 : Int)) ∧ (0 ≤ y ∧ y < (n 5 : Int)) ∧ (0 ≤ S 8 x.toNat 7 ∧ yBefore S (S 8 x.toNat 7).toNat x.toNat = 0) ∧ (S 8 x.toNat 7 = y ∨ ¬ yTake S y.toNat x.toNat)) ∧ u = (n, am, S))) : lOK n am q k u nM amM (fun z w => (¬ kShift M x y = 0 ∧ w = (nM, amM, up3 M 0 0 24 (kShift M x y))) ∨ (kShift M x y = 0 ∧ z = M 0 0 22 + 1 ∧ w = (nM, amM, gShift M x y))) := by
  have m := hs.m21
  have t1 := hs.2.1
  have t2 := hs.2.2.1
  have t3 := hs.2.2.2
  rcases h with ⟨rfl, hc, rfl⟩ | ⟨rfl, hc, rfl⟩ | ⟨rfl, hc, rfl⟩ | ⟨rfl, hc, rfl⟩ | ⟨rfl, hc, rfl⟩
  · have e := hs.1.shift hc.1 hc.2.1 hc.2.2.1 hc.2.2.2.1 hc.2.2.2.2 (by omega)
    have e1 := (hs.1.ahead hc.1.1 hc.1.2 hc.2.2.1.1).1
    have p := hs.1.pl hc.1.1 hc.1.2 hc.2.2.1.1
    obtain ⟨g, eg⟩ : ∃ g, g = (mSlot M x / 3).toNat := ⟨_, rfl⟩
    have e2 : g < n 5 := by omega
    have e4 : ¬ y.toNat = g := by omega
    have e3 : mSum (gShift M x y) (n 5) ≤ 6 := by
      rw [mSum_at (S := up3 M 3 0 g (M 3 0 g - 1)) (i := y.toNat) (fun j hj => by unfold gShift; rw [← eg]; simp [mComes, up3, hj]), mSum_at (S := M) (S' := up3 M 3 0 g (M 3 0 g - 1)) (i := g) (fun j hj => by simp [up3, hj]), if_pos e2, up3_s]
      split
      · unfold gShift
        rw [← eg]
        simp only [mComes, up3]
        simp [e4]
        omega
      · omega
    exact lOK.ok (M := M) (((hs.1.oShift x y).2.2.2 hc.1 hc.2.1 hc.2.2.1).1 hc.2.2.2) (by rw [m.2]) e (by simp [gShift, mComes, up3]; omega) (by simp [gShift, mComes, up3]; omega) (by simp [gShift, mComes, up3]) e3 (by unfold gShift mComes; exact (((((hM.put rfl).put rfl).put rfl).put rfl).put rfl)) (amK.rfl' n am) (fun _ => Nat.le_refl _)
  · exact lOK.err hs hM ((hs.1.oShift x y).1 hc) (by decide)
  · exact lOK.err hs hM ((hs.1.oShift x y).2.1 hc.1 hc.2) (by decide)
  · exact lOK.err hs hM ((hs.1.oShift x y).2.2.1 hc.1 hc.2.1 hc.2.2) (by decide)
  · exact lOK.err hs hM (((hs.1.oShift x y).2.2.2 hc.1 hc.2.1 hc.2.2.1).2 hc.2.2.2) (by decide)
theorem op_dock (hs : lSim n S M q) (hM : mW nM M) (hq : q < 600) (x : Int) (d : Int) (h : (k = 0 ∧ ((0 ≤ x ∧ x < (n 8 : Int)) ∧ (0 ≤ d ∧ d < (n 7 : Int)) ∧ (0 ≤ S 8 x.toNat 7 ∧ yBefore S (S 8 x.toNat 7).toNat x.toNat = 0) ∧ yServe S d.toNat x.toNat) ∧ u = (n, am, up3 (yDock S (S 8 x.toNat 7).toNat d.toNat x.toNat) 9 0 0 (yDock S (S 8 x.toNat 7).toNat d.toNat x.toNat 8 x.toNat 6 + yDock S (S 8 x.toNat 7).toNat d.toNat x.toNat 8 x.toNat 3))) ∨ (k = 1 ∧ (¬ (0 ≤ x ∧ x < (n 8 : Int))) ∧ u = (n, am, S)) ∨ (k = 2 ∧ ((0 ≤ x ∧ x < (n 8 : Int)) ∧ ¬ (0 ≤ d ∧ d < (n 7 : Int))) ∧ u = (n, am, S)) ∨ (k = 3 ∧ ((0 ≤ x ∧ x < (n 8 : Int)) ∧ (0 ≤ d ∧ d < (n 7 : Int)) ∧ ¬ (0 ≤ S 8 x.toNat 7 ∧ yBefore S (S 8 x.toNat 7).toNat x.toNat = 0)) ∧ u = (n, am, S)) ∨ (k = 4 ∧ ((0 ≤ x ∧ x < (n 8 : Int)) ∧ (0 ≤ d ∧ d < (n 7 : Int)) ∧ (0 ≤ S 8 x.toNat 7 ∧ yBefore S (S 8 x.toNat 7).toNat x.toNat = 0) ∧ ¬ yServe S d.toNat x.toNat) ∧ u = (n, am, S))) : lOK n am q k u nM amM (fun z w => (¬ kDock M x d = 0 ∧ w = (nM, amM, up3 M 0 0 24 (kDock M x d))) ∨ (kDock M x d = 0 ∧ z = M 0 0 21 + M 11 0 x.toNat ∧ w = (nM, amM, gDock M x d))) := by
  have m := hs.m21
  have t1 := hs.2.1
  have t2 := hs.2.2.1
  have t3 := hs.2.2.2
  rcases h with ⟨rfl, hc, rfl⟩ | ⟨rfl, hc, rfl⟩ | ⟨rfl, hc, rfl⟩ | ⟨rfl, hc, rfl⟩ | ⟨rfl, hc, rfl⟩
  · have e := hs.1.dock1 hc.1 hc.2.1 hc.2.2.1 (by omega)
    have e1 := (hs.1.ahead hc.1.1 hc.1.2 hc.2.2.1.1).1
    have p := hs.1.pl hc.1.1 hc.1.2 hc.2.2.1.1
    obtain ⟨g, eg⟩ : ∃ g, g = (mSlot M x / 3).toNat := ⟨_, rfl⟩
    have e2 : g < n 5 := by omega
    have e3 : mSum (gDock M x d) (n 5) ≤ 6 := by
      rw [mSum_at (S := M) (i := g) (fun j hj => by unfold gDock; rw [← eg]; simp [up3, hj]), if_pos e2]
      unfold gDock
      rw [← eg]
      simp only [up3]
      simp
      omega
    have e5 : yDock S (S 8 x.toNat 7).toNat d.toNat x.toNat 8 x.toNat 6 + yDock S (S 8 x.toNat 7).toNat d.toNat x.toNat 8 x.toNat 3 = M 0 0 21 + M 11 0 x.toNat := by
      have f := (e.2.2.2.2.1.1 x.toNat (by omega)).2.2
      rw [← f.2.2.2, ← f.1]
      simp [gDock, up3]
    exact lOK.ok (M := M) (((hs.1.oDock x d).2.2.2 hc.1 hc.2.1 hc.2.2.1).1 hc.2.2.2) e5 e (by simp [gDock, mComes, up3]; omega) (by simp [gDock, mComes, up3]; omega) (by simp [gDock, mComes, up3]) e3 (by unfold gDock; exact (((((((hM.put rfl).put rfl).put rfl).put rfl).put rfl).put rfl).put rfl)) (amK.rfl' n am) (fun _ => Nat.le_refl _)
  · exact lOK.err hs hM ((hs.1.oDock x d).1 hc) (by decide)
  · exact lOK.err hs hM ((hs.1.oDock x d).2.1 hc.1 hc.2) (by decide)
  · exact lOK.err hs hM ((hs.1.oDock x d).2.2.1 hc.1 hc.2.1 hc.2.2) (by decide)
  · exact lOK.err hs hM (((hs.1.oDock x d).2.2.2 hc.1 hc.2.1 hc.2.2.1).2 hc.2.2.2) (by decide)
theorem op_leave (hs : lSim n S M q) (hM : mW nM M) (hq : q < 600) (x : Int) (h : (k = 0 ∧ ((0 ≤ x ∧ x < (n 8 : Int)) ∧ 0 ≤ S 8 x.toNat 9 ∧ S 8 x.toNat 6 + S 8 x.toNat 3 ≤ S 0 0 10) ∧ u = (n, am, up3 (yLeave S x.toNat) 9 0 0 (yCharge (yLeave0 S x.toNat) x.toNat))) ∨ (k = 1 ∧ (¬ (0 ≤ x ∧ x < (n 8 : Int))) ∧ u = (n, am, S)) ∨ (k = 2 ∧ ((0 ≤ x ∧ x < (n 8 : Int)) ∧ S 8 x.toNat 9 < 0) ∧ u = (n, am, S)) ∨ (k = 3 ∧ ((0 ≤ x ∧ x < (n 8 : Int)) ∧ 0 ≤ S 8 x.toNat 9 ∧ S 0 0 10 < S 8 x.toNat 6 + S 8 x.toNat 3) ∧ u = (n, am, S))) : lOK n am q k u nM amM (fun z w => (¬ kLeave M x = 0 ∧ w = (nM, amM, up3 M 0 0 24 (kLeave M x))) ∨ (kLeave M x = 0 ∧ z = mCost (gLeave M x) x.toNat ∧ w = (nM, amM, gLeave M x))) := by
  have m := hs.m21
  have t1 := hs.2.1
  have t2 := hs.2.2.1
  have t3 := hs.2.2.2
  rcases h with ⟨rfl, hc, rfl⟩ | ⟨rfl, hc, rfl⟩ | ⟨rfl, hc, rfl⟩ | ⟨rfl, hc, rfl⟩
  · have e := hs.1.leave hc.1 hc.2.1
    exact lOK.ok (M := M) (by rw [hs.1.oLeave]; (repeat' split) <;> first | rfl | omega | (exfalso; omega)) e.2.symm e.1 (by simp [gLeave, gLeave0, mComes, up3]; omega) (by simp [gLeave, gLeave0, mComes, up3]; omega) (by simp [gLeave, gLeave0, mComes, up3]) (by rw [mSum_c (S := M) (fun i _ => by simp [gLeave, gLeave0, up3])]; exact t3) (by unfold gLeave gLeave0; exact ((((hM.put rfl).put rfl).put rfl).put rfl)) (amK.rfl' n am) (fun _ => Nat.le_refl _)
  · exact lOK.err hs hM (by rw [hs.1.oLeave]; (repeat' split) <;> first | rfl | omega | (exfalso; omega)) (by decide)
  · exact lOK.err hs hM (by rw [hs.1.oLeave]; (repeat' split) <;> first | rfl | omega | (exfalso; omega)) (by decide)
  · exact lOK.err hs hM (by rw [hs.1.oLeave]; (repeat' split) <;> first | rfl | omega | (exfalso; omega)) (by decide)
theorem op_laneOf (hs : lSim n S M q) (hM : mW nM M) (hq : q < 600) (x : Int) (h : (k = 0 ∧ ((0 ≤ x ∧ x < (n 8 : Int)) ∧ 0 ≤ S 8 x.toNat 7) ∧ u = (n, am, up3 (S) 9 0 0 (S 8 x.toNat 7))) ∨ (k = 1 ∧ (¬ (0 ≤ x ∧ x < (n 8 : Int))) ∧ u = (n, am, S)) ∨ (k = 2 ∧ ((0 ≤ x ∧ x < (n 8 : Int)) ∧ S 8 x.toNat 7 < 0) ∧ u = (n, am, S))) : lOK n am q k u nM amM (fun z w => (¬ kElse M x = 0 ∧ w = (nM, amM, up3 M 0 0 24 (kElse M x))) ∨ (kElse M x = 0 ∧ z = mSlot M x / 3 ∧ w = (nM, amM, m0 M 0))) := by
  have m := hs.m21
  rcases h with ⟨rfl, hc, rfl⟩ | ⟨rfl, hc, rfl⟩ | ⟨rfl, hc, rfl⟩
  · exact lOK.same hs hM (by rw [hs.1.oElse]; (repeat' split) <;> first | rfl | omega | (exfalso; omega)) (hs.1.ahead (by omega) (by omega) hc.2).1.symm
  · exact lOK.err hs hM (by rw [hs.1.oElse]; (repeat' split) <;> first | rfl | omega | (exfalso; omega)) (by decide)
  · exact lOK.err hs hM (by rw [hs.1.oElse]; (repeat' split) <;> first | rfl | omega | (exfalso; omega)) (by decide)
theorem op_blockers (hs : lSim n S M q) (hM : mW nM M) (hq : q < 600) (x : Int) (h : (k = 0 ∧ ((0 ≤ x ∧ x < (n 8 : Int)) ∧ 0 ≤ S 8 x.toNat 7) ∧ u = (n, am, up3 (S) 9 0 0 (yBefore S (S 8 x.toNat 7).toNat x.toNat))) ∨ (k = 1 ∧ (¬ (0 ≤ x ∧ x < (n 8 : Int))) ∧ u = (n, am, S)) ∨ (k = 2 ∧ ((0 ≤ x ∧ x < (n 8 : Int)) ∧ S 8 x.toNat 7 < 0) ∧ u = (n, am, S))) : lOK n am q k u nM amM (fun z w => (¬ kElse M x = 0 ∧ w = (nM, amM, up3 M 0 0 24 (kElse M x))) ∨ (kElse M x = 0 ∧ z = mAhead M x ∧ w = (nM, amM, m0 M 0))) := by
  have m := hs.m21
  rcases h with ⟨rfl, hc, rfl⟩ | ⟨rfl, hc, rfl⟩ | ⟨rfl, hc, rfl⟩
  · exact lOK.same hs hM (by rw [hs.1.oElse]; (repeat' split) <;> first | rfl | omega | (exfalso; omega)) (hs.1.ahead (by omega) (by omega) hc.2).2.symm
  · exact lOK.err hs hM (by rw [hs.1.oElse]; (repeat' split) <;> first | rfl | omega | (exfalso; omega)) (by decide)
  · exact lOK.err hs hM (by rw [hs.1.oElse]; (repeat' split) <;> first | rfl | omega | (exfalso; omega)) (by decide)
theorem op_trailerAt (hs : lSim n S M q) (hM : mW nM M) (hq : q < 600) (y : Int) (x : Int) (h : (k = 0 ∧ ((0 ≤ y ∧ y < (n 5 : Int)) ∧ 0 ≤ yExit S y.toNat x) ∧ u = (n, am, up3 (S) 9 0 0 (yExit S y.toNat x))) ∨ (k = 1 ∧ (¬ (0 ≤ y ∧ y < (n 5 : Int))) ∧ u = (n, am, S)) ∨ (k = 2 ∧ ((0 ≤ y ∧ y < (n 5 : Int)) ∧ yExit S y.toNat x < 0) ∧ u = (n, am, S))) : lOK n am q k u nM amM (fun z w => (¬ kTrailer M y x = 0 ∧ w = (nM, amM, up3 M 0 0 24 (kTrailer M y x))) ∨ (kTrailer M y x = 0 ∧ z = M 4 0 (3 * y + M 3 0 y.toNat - 1 - x).toNat ∧ w = (nM, amM, m0 M 0))) := by
  have m := hs.m21
  rcases h with ⟨rfl, hc, rfl⟩ | ⟨rfl, hc, rfl⟩ | ⟨rfl, hc, rfl⟩
  · exact lOK.same hs hM (by rw [hs.1.oTrailer]; (repeat' split) <;> first | rfl | omega | (exfalso; omega)) (hs.1.atExit hc.1 hc.2).symm
  · exact lOK.err hs hM (by rw [hs.1.oTrailer]; (repeat' split) <;> first | rfl | omega | (exfalso; omega)) (by decide)
  · exact lOK.err hs hM (by rw [hs.1.oTrailer]; (repeat' split) <;> first | rfl | omega | (exfalso; omega)) (by decide)
theorem op_freeDoor (hs : lSim n S M q) (hM : mW nM M) (hq : q < 600) (x : Int) (h : (k = 0 ∧ ((0 ≤ x ∧ x < (n 8 : Int)) ∧ 0 ≤ yFree S x.toNat (n 7)) ∧ u = (n, am, up3 (S) 9 0 0 (yFree S x.toNat (n 7)))) ∨ (k = 1 ∧ (¬ (0 ≤ x ∧ x < (n 8 : Int))) ∧ u = (n, am, S)) ∨ (k = 2 ∧ ((0 ≤ x ∧ x < (n 8 : Int)) ∧ yFree S x.toNat (n 7) < 0) ∧ u = (n, am, S))) : lOK n am q k u nM amM (fun z w => (¬ kFree M x = 0 ∧ w = (nM, amM, up3 M 0 0 24 (kFree M x))) ∨ (kFree M x = 0 ∧ z = mFree M x.toNat (M 0 0 5).toNat ∧ w = (nM, amM, m0 M 0))) := by
  have m := hs.m21
  rcases h with ⟨rfl, hc, rfl⟩ | ⟨rfl, hc, rfl⟩ | ⟨rfl, hc, rfl⟩
  · exact lOK.same hs hM (by
      unfold kFree
      rw [hs.1.2.1.1.2.2, hs.1.2.1.1.2.1, Int.toNat_natCast]
      by_cases q9 : 0 ≤ x ∧ x < (n 8 : Int)
      · rw [hs.1.free (j := x.toNat) (by omega)]
        (repeat' split) <;> first | rfl | omega | (exfalso; omega)
      · (repeat' split) <;> first | rfl | omega | (exfalso; omega)) (by rw [hs.1.2.1.1.2.1, Int.toNat_natCast, hs.1.free (by omega)])
  · exact lOK.err hs hM (by
      unfold kFree
      rw [hs.1.2.1.1.2.2, hs.1.2.1.1.2.1, Int.toNat_natCast]
      by_cases q9 : 0 ≤ x ∧ x < (n 8 : Int)
      · rw [hs.1.free (j := x.toNat) (by omega)]
        (repeat' split) <;> first | rfl | omega | (exfalso; omega)
      · (repeat' split) <;> first | rfl | omega | (exfalso; omega)) (by decide)
  · exact lOK.err hs hM (by
      unfold kFree
      rw [hs.1.2.1.1.2.2, hs.1.2.1.1.2.1, Int.toNat_natCast]
      by_cases q9 : 0 ≤ x ∧ x < (n 8 : Int)
      · rw [hs.1.free (j := x.toNat) (by omega)]
        (repeat' split) <;> first | rfl | omega | (exfalso; omega)
      · (repeat' split) <;> first | rfl | omega | (exfalso; omega)) (by decide)
theorem op_fewestMoves (hs : lSim n S M q) (hM : mW nM M) (hq : q < 600) (x : Int) (h : (k = 0 ∧ ((0 ≤ x ∧ x < (n 8 : Int)) ∧ 0 ≤ S 8 x.toNat 7) ∧ ∃ (S9 : ts_St) (d : Nat), u = (n, am, up3 S9 9 0 0 (d : Int)) ∧ cEq n S S9 ∧ d ≤ 4 ∧ mRch d (yV n S (m0 M 0)) x ∧ ∀ q : Nat, q < d → ¬ mRch q (yV n S (m0 M 0)) x) ∨ (k = 1 ∧ ¬ (0 ≤ x ∧ x < (n 8 : Int)) ∧ u = (n, am, S)) ∨ (k = 2 ∧ (0 ≤ x ∧ x < (n 8 : Int)) ∧ S 8 x.toNat 7 < 0 ∧ u = (n, am, S)) ∨ (k = 3 ∧ ((0 ≤ x ∧ x < (n 8 : Int)) ∧ 0 ≤ S 8 x.toNat 7) ∧ (∃ S9 : ts_St, u = (n, am, S9) ∧ cEq n S S9) ∧ ∀ q : Nat, q ≤ 4 → ¬ mRch q (yV n S (m0 M 0)) x)) : lOK n am q k u nM amM (fun z w => (¬ kElse M x = 0 ∧ w = (nM, amM, up3 M 0 0 24 (kElse M x))) ∨ (kElse M x = 0 ∧ ∃ S9, mEq (m0 M 0) S9 ∧ ((∃ d : Nat, d ≤ 4 ∧ mRch d (m0 M 0) x ∧ (∀ q, q < d → ¬ mRch q (m0 M 0) x) ∧ z = (d : Int) ∧ w = (nM, amM, S9)) ∨ ((∀ d, d ≤ 4 → ¬ mRch d (m0 M 0) x) ∧ w = (nM, amM, m0 S9 3))))) := by
  have c7 : ¬ (¬ (0 ≤ x ∧ x < (n 8 : Int))) → 0 ≤ S 8 x.toNat 7 → kElse M x = 0 := fun q1 q2 => by rw [hs.1.oElse]; (repeat' split) <;> first | rfl | omega | (exfalso; omega)
  have hsum : ∀ S9 : ts_St, mEq (m0 M 0) S9 → mSum S9 (n 5) ≤ 6 := fun S9 h9 => by
    rw [mSum_c (S := M) (fun i _ => (h9.1 3 0 i (by decide)).trans (up3_n (by omega)))]
    exact hs.2.2.2
  have hK : ∀ (C9 M9 : ts_St) (K : Int), cEq n S C9 → mEq (m0 M 0) M9 → lSim n C9 (m0 M9 K) (q + 1) := fun C9 M9 K g1 g2 => by
    have e : lSim n C9 M9 q := ⟨(hs.1.code 0).cEq g1 g2, by rw [g1.1 0 0 10 (by decide)]; exact hs.2.1, by rw [g1.1 0 0 11 (by decide)]; exact hs.2.2.1, hsum _ g2⟩
    exact e.code K
  rcases h with ⟨rfl, hc, S9, d, rfl, h1, h2, h3, h4⟩ | ⟨rfl, hc, rfl⟩ | ⟨rfl, hc, h7, rfl⟩ | ⟨rfl, hc, ⟨S9, rfl, h1⟩, h4⟩
  · refine ⟨n, am, _, rfl, amK.rfl' n am, fun _ => Nat.le_refl _, fun z w hp => ?_⟩
    rcases hp with ⟨h, -⟩ | ⟨-, M9, g1, g2⟩
    · exact absurd (c7 (fun z => z hc.1) hc.2) h
    · have f := fun d => hs.1.fewest (d := d) hc.1 hc.2
      rcases g2 with ⟨d', g3, g4, g5, rfl, rfl⟩ | ⟨g3, rfl⟩
      · have hd : d = d' := by
          rcases Nat.lt_trichotomy d d' with z | z | z
          · exact absurd ((f d).mpr h3) (g5 d z)
          · exact z
          · exact absurd ((f d').mp g4) (h4 d' z)
        subst hd
        have e := hK S9 M9 0 h1 g1
        have e0 : m0 M9 0 = M9 := by
          funext a b c
          show up3 M9 0 0 24 0 a b c = _
          unfold up3
          split
          · rename_i z
            rw [z.1, z.2.1, z.2.2, g1.1 0 0 24 (by decide)]
            exact (up3_s _ _ _ _ _).symm
          · rfl
        rw [e0] at e
        refine ⟨M9, rfl, g1.W (hM.put rfl), (g1.1 0 0 24 (by decide)).trans (up3_s _ _ _ _ _), fun _ => up3_s _ _ _ _ _, e.1.out _, ?_, ?_, e.2.2.2⟩
        · rw [up3_n (by omega)]; exact e.2.1
        · rw [up3_n (by omega)]; exact e.2.2.1
      · exact absurd ((f d).mpr h3) (g3 d h2)
  · exact lOK.err hs hM (by rw [hs.1.oElse]; (repeat' split) <;> first | rfl | omega | (exfalso; omega)) (by decide)
  · exact lOK.err hs hM (by rw [hs.1.oElse]; (repeat' split) <;> first | rfl | omega | (exfalso; omega)) (by decide)
  · refine ⟨n, am, _, rfl, amK.rfl' n am, fun _ => Nat.le_refl _, fun z w hp => ?_⟩
    rcases hp with ⟨h, -⟩ | ⟨-, M9, g1, g2⟩
    · exact absurd (c7 (fun z => z hc.1) hc.2) h
    · have f := fun d => hs.1.fewest (d := d) hc.1 hc.2
      rcases g2 with ⟨d', g3, g4, g5, rfl, rfl⟩ | ⟨g3, rfl⟩
      · exact absurd ((f d').mp g4) (h4 d' g3)
      · exact ⟨_, rfl, (g1.W (hM.put rfl)).put rfl, up3_s _ _ _ _ _, fun z => absurd z (by decide), hK S9 M9 3 h1 g1⟩
theorem op_fewestByOrders (hs : lSim n S M q) (hM : mW nM M) (hq : q < 600) (x : Int) (h : (k = 0 ∧ ((0 ≤ x ∧ x < (n 8 : Int)) ∧ 0 ≤ S 8 x.toNat 7) ∧ ∃ (S9 : ts_St) (d : Nat), u = (n, am, up3 S9 9 0 0 (d : Int)) ∧ cEq n S S9 ∧ d ≤ 4 ∧ mRch d (yV n S (m0 M 0)) x ∧ ∀ q : Nat, q < d → ¬ mRch q (yV n S (m0 M 0)) x) ∨ (k = 1 ∧ ¬ (0 ≤ x ∧ x < (n 8 : Int)) ∧ u = (n, am, S)) ∨ (k = 2 ∧ (0 ≤ x ∧ x < (n 8 : Int)) ∧ S 8 x.toNat 7 < 0 ∧ u = (n, am, S)) ∨ (k = 3 ∧ ((0 ≤ x ∧ x < (n 8 : Int)) ∧ 0 ≤ S 8 x.toNat 7) ∧ (∃ S9 : ts_St, u = (n, am, S9) ∧ cEq n S S9) ∧ ∀ q : Nat, q ≤ 4 → ¬ mRch q (yV n S (m0 M 0)) x)) : lOK n am q k u nM amM (fun z w => (¬ kElse M x = 0 ∧ w = (nM, amM, up3 M 0 0 24 (kElse M x))) ∨ (kElse M x = 0 ∧ ∃ S9, mEq (m0 M 0) S9 ∧ ((∃ d : Nat, d ≤ 4 ∧ mRch d (m0 M 0) x ∧ (∀ q, q < d → ¬ mRch q (m0 M 0) x) ∧ z = (d : Int) ∧ w = (nM, amM, S9)) ∨ ((∀ d, d ≤ 4 → ¬ mRch d (m0 M 0) x) ∧ w = (nM, amM, m0 S9 3))))) := by
  have c7 : ¬ (¬ (0 ≤ x ∧ x < (n 8 : Int))) → 0 ≤ S 8 x.toNat 7 → kElse M x = 0 := fun q1 q2 => by rw [hs.1.oElse]; (repeat' split) <;> first | rfl | omega | (exfalso; omega)
  have hsum : ∀ S9 : ts_St, mEq (m0 M 0) S9 → mSum S9 (n 5) ≤ 6 := fun S9 h9 => by
    rw [mSum_c (S := M) (fun i _ => (h9.1 3 0 i (by decide)).trans (up3_n (by omega)))]
    exact hs.2.2.2
  have hK : ∀ (C9 M9 : ts_St) (K : Int), cEq n S C9 → mEq (m0 M 0) M9 → lSim n C9 (m0 M9 K) (q + 1) := fun C9 M9 K g1 g2 => by
    have e : lSim n C9 M9 q := ⟨(hs.1.code 0).cEq g1 g2, by rw [g1.1 0 0 10 (by decide)]; exact hs.2.1, by rw [g1.1 0 0 11 (by decide)]; exact hs.2.2.1, hsum _ g2⟩
    exact e.code K
  rcases h with ⟨rfl, hc, S9, d, rfl, h1, h2, h3, h4⟩ | ⟨rfl, hc, rfl⟩ | ⟨rfl, hc, h7, rfl⟩ | ⟨rfl, hc, ⟨S9, rfl, h1⟩, h4⟩
  · refine ⟨n, am, _, rfl, amK.rfl' n am, fun _ => Nat.le_refl _, fun z w hp => ?_⟩
    rcases hp with ⟨h, -⟩ | ⟨-, M9, g1, g2⟩
    · exact absurd (c7 (fun z => z hc.1) hc.2) h
    · have f := fun d => hs.1.fewest (d := d) hc.1 hc.2
      rcases g2 with ⟨d', g3, g4, g5, rfl, rfl⟩ | ⟨g3, rfl⟩
      · have hd : d = d' := by
          rcases Nat.lt_trichotomy d d' with z | z | z
          · exact absurd ((f d).mpr h3) (g5 d z)
          · exact z
          · exact absurd ((f d').mp g4) (h4 d' z)
        subst hd
        have e := hK S9 M9 0 h1 g1
        have e0 : m0 M9 0 = M9 := by
          funext a b c
          show up3 M9 0 0 24 0 a b c = _
          unfold up3
          split
          · rename_i z
            rw [z.1, z.2.1, z.2.2, g1.1 0 0 24 (by decide)]
            exact (up3_s _ _ _ _ _).symm
          · rfl
        rw [e0] at e
        refine ⟨M9, rfl, g1.W (hM.put rfl), (g1.1 0 0 24 (by decide)).trans (up3_s _ _ _ _ _), fun _ => up3_s _ _ _ _ _, e.1.out _, ?_, ?_, e.2.2.2⟩
        · rw [up3_n (by omega)]; exact e.2.1
        · rw [up3_n (by omega)]; exact e.2.2.1
      · exact absurd ((f d).mpr h3) (g3 d h2)
  · exact lOK.err hs hM (by rw [hs.1.oElse]; (repeat' split) <;> first | rfl | omega | (exfalso; omega)) (by decide)
  · exact lOK.err hs hM (by rw [hs.1.oElse]; (repeat' split) <;> first | rfl | omega | (exfalso; omega)) (by decide)
  · refine ⟨n, am, _, rfl, amK.rfl' n am, fun _ => Nat.le_refl _, fun z w hp => ?_⟩
    rcases hp with ⟨h, -⟩ | ⟨-, M9, g1, g2⟩
    · exact absurd (c7 (fun z => z hc.1) hc.2) h
    · have f := fun d => hs.1.fewest (d := d) hc.1 hc.2
      rcases g2 with ⟨d', g3, g4, g5, rfl, rfl⟩ | ⟨g3, rfl⟩
      · exact absurd ((f d').mp g4) (h4 d' g3)
      · exact ⟨_, rfl, (g1.W (hM.put rfl)).put rfl, up3_s _ _ _ _ _, fun z => absurd z (by decide), hK S9 M9 3 h1 g1⟩
theorem op_pass (hs : lSim n S M q) (hM : mW nM M) (hq : q < 600) (a : Int) (h : (k = 0 ∧ (1 ≤ a ∧ a ≤ 99) ∧ u = (n, am, up3 (gY S (S 0 0 10 + a) (n 8)) 9 0 0 (yPn S (S 0 0 10 + a) (n 8)))) ∨ (k = 1 ∧ (¬ (1 ≤ a ∧ a ≤ 99)) ∧ u = (n, am, S))) : lOK n am q k u nM amM (fun z w => (¬ kPass a = 0 ∧ w = (nM, amM, up3 M 0 0 24 (kPass a))) ∨ (kPass a = 0 ∧ z = pN (m0 M 0) (M 0 0 21 + a) (M 0 0 8).toNat ∧ w = (nM, amM, gP (m0 M 0) (M 0 0 21 + a) (M 0 0 8).toNat))) := by
  have m := hs.m21
  have t1 := hs.2.1
  have t2 := hs.2.2.1
  have t3 := hs.2.2.2
  rcases h with ⟨rfl, hc, rfl⟩ | ⟨rfl, hc, rfl⟩
  · have e := (hs.1.code 0).pass (a := a) hc (by omega)
    have e5 := (yPn_eq (T := S 0 0 10 + a) (hs.1.code 0)).symm
    rw [← m.1] at e e5
    rw [m.1]
    rw [hs.1.2.1.1.2.2, Int.toNat_natCast]
    rw [← m.1]
    exact lOK.ok (M := M) (by unfold kPass; (repeat' split) <;> first | rfl | omega | (exfalso; omega)) e5 e (by simp [gP]; omega) (by simp [gP, up3]; omega) (by simp [gP, mComes, up3]) (by rw [mSum_c (S := M) (fun i _ => by simp [gP, up3])]; exact t3) ⟨hM.1, fun f hf => by
      have hm := hM.2 f hf
      unfold gP
      rw [if_neg (fun z => by rw [z.2.2] at hf; exact absurd hf (by decide)), if_neg (by omega)]
      show up3 M 0 0 24 0 0 0 f = _
      rw [up3_n (fun z => by rw [z.2.2] at hf; exact absurd hf (by decide))]
      exact hm⟩ (amK.rfl' n am) (fun _ => Nat.le_refl _)
  · exact lOK.err hs hM (by unfold kPass; (repeat' split) <;> first | rfl | omega | (exfalso; omega)) (by decide)
theorem op_waited (hs : lSim n S M q) (hM : mW nM M) (hq : q < 600) (x : Int) (h : (k = 0 ∧ ((0 ≤ x ∧ x < (n 8 : Int)) ∧ yCame S x.toNat) ∧ u = (n, am, up3 (S) 9 0 0 (yWait S x.toNat))) ∨ (k = 1 ∧ (¬ (0 ≤ x ∧ x < (n 8 : Int))) ∧ u = (n, am, S)) ∨ (k = 2 ∧ ((0 ≤ x ∧ x < (n 8 : Int)) ∧ ¬ yCame S x.toNat) ∧ u = (n, am, S))) : lOK n am q k u nM amM (fun z w => (¬ kNotCome M x = 0 ∧ w = (nM, amM, up3 M 0 0 24 (kNotCome M x))) ∨ (kNotCome M x = 0 ∧ z = mWait M x.toNat ∧ w = (nM, amM, m0 M 0))) := by
  have m := hs.m21
  rcases h with ⟨rfl, hc, rfl⟩ | ⟨rfl, hc, rfl⟩ | ⟨rfl, hc, rfl⟩
  · try unfold yCame at hc
    exact lOK.same hs hM (by rw [hs.1.oNotCome]; (repeat' split) <;> first | rfl | omega | (exfalso; omega)) (hs.1.wait (by omega)).symm
  · try unfold yCame at hc
    exact lOK.err hs hM (by rw [hs.1.oNotCome]; (repeat' split) <;> first | rfl | omega | (exfalso; omega)) (by decide)
  · try unfold yCame at hc
    exact lOK.err hs hM (by rw [hs.1.oNotCome]; (repeat' split) <;> first | rfl | omega | (exfalso; omega)) (by decide)
theorem op_charge (hs : lSim n S M q) (hM : mW nM M) (hq : q < 600) (x : Int) (h : (k = 0 ∧ ((0 ≤ x ∧ x < (n 8 : Int)) ∧ yCame S x.toNat) ∧ u = (n, am, up3 (S) 9 0 0 (yCharge S x.toNat))) ∨ (k = 1 ∧ (¬ (0 ≤ x ∧ x < (n 8 : Int))) ∧ u = (n, am, S)) ∨ (k = 2 ∧ ((0 ≤ x ∧ x < (n 8 : Int)) ∧ ¬ yCame S x.toNat) ∧ u = (n, am, S))) : lOK n am q k u nM amM (fun z w => (¬ kNotCome M x = 0 ∧ w = (nM, amM, up3 M 0 0 24 (kNotCome M x))) ∨ (kNotCome M x = 0 ∧ z = mCost M x.toNat ∧ w = (nM, amM, m0 M 0))) := by
  have m := hs.m21
  rcases h with ⟨rfl, hc, rfl⟩ | ⟨rfl, hc, rfl⟩ | ⟨rfl, hc, rfl⟩
  · try unfold yCame at hc
    exact lOK.same hs hM (by rw [hs.1.oNotCome]; (repeat' split) <;> first | rfl | omega | (exfalso; omega)) (hs.1.cost (by omega)).symm
  · try unfold yCame at hc
    exact lOK.err hs hM (by rw [hs.1.oNotCome]; (repeat' split) <;> first | rfl | omega | (exfalso; omega)) (by decide)
  · try unfold yCame at hc
    exact lOK.err hs hM (by rw [hs.1.oNotCome]; (repeat' split) <;> first | rfl | omega | (exfalso; omega)) (by decide)
theorem op_chargeByHours (hs : lSim n S M q) (hM : mW nM M) (hq : q < 600) (x : Int) (h : (k = 0 ∧ ((0 ≤ x ∧ x < (n 8 : Int)) ∧ yCame S x.toNat) ∧ u = (n, am, up3 (S) 9 0 0 (yHours S x.toNat))) ∨ (k = 1 ∧ (¬ (0 ≤ x ∧ x < (n 8 : Int))) ∧ u = (n, am, S)) ∨ (k = 2 ∧ ((0 ≤ x ∧ x < (n 8 : Int)) ∧ ¬ yCame S x.toNat) ∧ u = (n, am, S))) : lOK n am q k u nM amM (fun z w => (¬ kNotCome M x = 0 ∧ w = (nM, amM, up3 M 0 0 24 (kNotCome M x))) ∨ (kNotCome M x = 0 ∧ z = mCost M x.toNat ∧ w = (nM, amM, m0 M 0))) := by
  have m := hs.m21
  rcases h with ⟨rfl, hc, rfl⟩ | ⟨rfl, hc, rfl⟩ | ⟨rfl, hc, rfl⟩
  · try unfold yCame at hc
    exact lOK.same hs hM (by rw [hs.1.oNotCome]; (repeat' split) <;> first | rfl | omega | (exfalso; omega)) (hs.1.hours (by omega)).symm
  · try unfold yCame at hc
    exact lOK.err hs hM (by rw [hs.1.oNotCome]; (repeat' split) <;> first | rfl | omega | (exfalso; omega)) (by decide)
  · try unfold yCame at hc
    exact lOK.err hs hM (by rw [hs.1.oNotCome]; (repeat' split) <;> first | rfl | omega | (exfalso; omega)) (by decide)
end LOPS
