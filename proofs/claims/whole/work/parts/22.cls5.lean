/-! The class's search. -/
section CS
variable {n : Nat → Nat} {C C2 Z : ts_St} {t lh : Nat} {a b : Int} {d : Nat}
theorem cIv.eq (h : cIv n C Z t) (hE : cEq n C C2) : cIv n C2 Z t := by
  obtain ⟨hW, hR, hJ, hZ, ht, h7⟩ := h
  exact ⟨hE.W hW, hE.R hR, hE.J hJ, hZ, ht, by rw [hE.1 8 t 7 (by decide)]; exact h7⟩
theorem cEq.before (hE : cEq n C C2) : yBefore C2 lh t = yBefore C lh t := by
  unfold yBefore
  rw [hE.1 5 lh 4 (by decide), hE.1 8 t 8 (by decide)]
theorem cIv.bR (h : cIv n C Z t) (hh : C 8 t 7 = (lh : Int)) : 0 ≤ yBefore C lh t ∧ yBefore C lh t ≤ 2 := by
  obtain ⟨hW, hR, hJ, hZ, ht, h7⟩ := h
  obtain ⟨h1, h2, h3, h4⟩ := (hJ.2 t ht).2 h7
  rw [hh, Int.toNat_natCast] at h3
  have h5 := (hJ.1 lh (by omega)).1
  unfold yBefore
  omega
theorem cIv.ah (h : cIv n C Z t) (hh : C 8 t 7 = (lh : Int)) : mAhead (yV n C Z) (t : Int) = yBefore C lh t := by
  obtain ⟨hW, hR, hJ, hZ, ht, h7⟩ := h
  rw [yV_ahead hJ ht h7, hh, Int.toNat_natCast]
theorem yR_0 (h : cIv n C Z t) (hh : C 8 t 7 = (lh : Int)) (h0 : yBefore C lh t = 0) : mRch d (yV n C Z) (t : Int) := by
  rw [← h.ah hh] at h0
  cases d with
  | zero => exact h0
  | succ d => exact Or.inl h0
theorem yR_le (h : cIv n C Z t) (hh : C 8 t 7 = (lh : Int)) (q : mRch d (yV n C Z) (t : Int)) : yBefore C lh t ≤ (d : Int) := by
  rw [← h.ah hh]
  cases d with
  | zero =>
    have q : mAhead (yV n C Z) (t : Int) = 0 := q
    omega
  | succ d =>
    rcases q with q | ⟨q, -⟩ <;> omega
theorem cIv.mv (h : cIv n C Z t) (hh : C 8 t 7 = (lh : Int)) (ha : 0 ≤ a ∧ a < (n 5 : Int)) (hb : 0 ≤ b ∧ b < (n 5 : Int)) (h0 : ¬ yBefore C lh t = 0) (hal : yAllow C a b) : cIv n (yMove C a b) Z t ∧ yMove C a b 8 t 7 = (lh : Int) ∧ yBefore C lh t ≤ yBefore (yMove C a b) lh t + 1 := by
  obtain ⟨hW, hR, hJ, hZ, ht, h7⟩ := h
  obtain ⟨j, hj, he, g7, g8, h1, h6, htk, hM, m54, m5, m6, m87, m88, m8, mk⟩ := yMove_at hW hJ ha hb hal
  have htj : ¬ t = j := by
    intro z
    subst z
    apply h0
    unfold yBefore
    rw [g8, show lh = a.toNat by omega]
    omega
  have e7 : yMove C a b 8 t 7 = (lh : Int) := by rw [m87, if_neg htj, hh]
  refine ⟨⟨yMove_W hW, ?_, yMove_J hW hJ ha hb hal, hZ, ht, by omega⟩, e7, ?_⟩
  · unfold cR at hR ⊢
    rw [mk 0 0 5 (by decide), mk 0 0 6 (by decide), mk 0 0 7 (by decide), mk 0 0 8 (by decide), mk 0 0 9 (by decide), mk 0 0 10 (by decide), mk 0 0 11 (by decide)]
    refine ⟨hR.1, fun x hx => ?_⟩
    rw [m8 x 1 (by decide) (by decide), m8 x 2 (by decide) (by decide), m8 x 3 (by decide) (by decide), m8 x 4 (by decide) (by decide), m8 x 5 (by decide) (by decide), m8 x 6 (by decide) (by decide)]
    exact hR.2 x hx
  · unfold yBefore
    rw [m54, m88, if_neg htj]
    split
    · omega
    · split <;> omega
theorem yT_t (h : cIv n C Z t) (hE : cEq n C C2) (hh : C 8 t 7 = (lh : Int)) (ha : 0 ≤ a ∧ a < (n 5 : Int)) (hb : 0 ≤ b ∧ b < (n 5 : Int)) (h0 : ¬ yBefore C lh t = 0) (hal : yAllow C2 a b) : mRch d (yV n (yMove C2 a b) Z) (t : Int) ↔ mT d (yV n C Z) (t : Int) a b := by
  have h2 := h.eq hE
  have hh2 : C2 8 t 7 = (lh : Int) := (hE.1 8 t 7 (by decide)).trans hh
  have h02 : ¬ yBefore C2 (C2 8 t 7).toNat t = 0 := by
    rw [hh2, Int.toNat_natCast, hE.before]
    exact h0
  have hok := (yV_ok h2 ha hb h02).mp hal
  rw [← mT_eq (hE.V Z) h.m ha.1 hb.1]
  unfold mT
  have hm := mRch_eq d (yV_mv (Z := Z) h2.1 h2.2.2.1 ha hb hal) (mMv_Iv h2.m ha.1 hb.1 hok)
  exact ⟨fun q => ⟨hok, hm.mp q⟩, fun q => hm.mpr q.2⟩
theorem yT_f (h : cIv n C Z t) (hE : cEq n C C2) (hh : C 8 t 7 = (lh : Int)) (ha : 0 ≤ a ∧ a < (n 5 : Int)) (hb : 0 ≤ b ∧ b < (n 5 : Int)) (h0 : ¬ yBefore C lh t = 0) (hal : ¬ yAllow C2 a b) : ¬ mT d (yV n C Z) (t : Int) a b := by
  have h2 := h.eq hE
  have hh2 : C2 8 t 7 = (lh : Int) := (hE.1 8 t 7 (by decide)).trans hh
  have h02 : ¬ yBefore C2 (C2 8 t 7).toNat t = 0 := by
    rw [hh2, Int.toNat_natCast, hE.before]
    exact h0
  rw [← mT_eq (hE.V Z) h.m ha.1 hb.1]
  exact fun q => hal ((yV_ok h2 ha hb h02).mpr q.1)
theorem yR_of (h : cIv n C Z t) (hh : C 8 t 7 = (lh : Int)) (ha : 0 ≤ a ∧ a < (n 5 : Int)) (hb : 0 ≤ b ∧ b < (n 5 : Int)) (h0 : ¬ yBefore C lh t = 0) (q : mT d (yV n C Z) (t : Int) a b) : mRch (d + 1) (yV n C Z) (t : Int) := by
  have hal : yAllow C a b := Classical.byContradiction fun z => yT_f h (cEq.rfl' n C) hh ha hb h0 z q
  have q2 := (yT_t h (cEq.rfl' n C) hh ha hb h0 hal).mpr q
  obtain ⟨k1, k2, k3⟩ := h.mv hh ha hb h0 hal
  have k4 := yR_le k1 k2 q2
  refine Or.inr ⟨?_, a, b, ha, hb, q⟩
  rw [h.ah hh]
  omega
/-- what a search by orders holds: x is what it has found, P says which pairs it has looked at -/
def cB (V : ts_St) (t made best : Int) (P : Nat → Prop) (x : Int) : Prop := x ≤ best ∧ (x < best → ∃ d : Nat, x = made + 1 + (d : Int) ∧ mRch (d + 1) V t) ∧ ∀ d : Nat, made + 1 + (d : Int) ≤ 4 → P d → x ≤ made + 1 + (d : Int)
def cBest (V : ts_St) (t made best x : Int) : Prop := x ≤ best ∧ (x < best → ∃ d : Nat, x = made + (d : Int) ∧ mRch d V t) ∧ ∀ d : Nat, made + (d : Int) ≤ 4 → mRch d V t → x ≤ made + (d : Int)
theorem cB.mono {V : ts_St} {t made best x : Int} {P P' : Nat → Prop} (h : cB V t made best P x) (hP : ∀ d, P' d → P d) : cB V t made best P' x := ⟨h.1, h.2.1, fun d q1 q2 => h.2.2 d q1 (hP d q2)⟩
theorem cB_0 {V : ts_St} {t made best : Int} {P : Nat → Prop} (hP : ∀ d, ¬ P d) : cB V t made best P best := ⟨Int.le_refl _, fun q => absurd q (Int.lt_irrefl _), fun d _ q => absurd q (hP d)⟩
theorem mEx2_or {d : Nat} {S : ts_St} {t y w : Int} : mEx2 d S t y (w + 1) → mEx2 d S t y w ∨ mT d S t y w := by
  rintro (q | ⟨b, h1, h2⟩)
  · exact Or.inl (Or.inl q)
  · by_cases hb : b = w
    · rw [← hb]
      exact Or.inr h2
    · exact Or.inl (Or.inr ⟨b, by omega, h2⟩)
theorem cB_s (h : cIv n C Z t) (hE : cEq n C C2) (hh : C 8 t 7 = (lh : Int)) (ha : 0 ≤ a ∧ a < (n 5 : Int)) (hb : 0 ≤ b ∧ b < (n 5 : Int)) (h0 : ¬ yBefore C lh t = 0) (hal : yAllow C2 a b) {made best x r : Int} (hx : cB (yV n C Z) (t : Int) made best (fun d => mEx2 d (yV n C Z) (t : Int) a b) x) (hr : cBest (yV n (yMove C2 a b) Z) (t : Int) (made + 1) x r) : cB (yV n C Z) (t : Int) made best (fun d => mEx2 d (yV n C Z) (t : Int) a (b + 1)) r := by
  obtain ⟨x1, x2, x3⟩ := hx
  obtain ⟨r1, r2, r3⟩ := hr
  refine ⟨by omega, fun q => ?_, fun d q1 q2 => ?_⟩
  · by_cases hrx : r < x
    · obtain ⟨d, e, q2⟩ := r2 hrx
      exact ⟨d, e, yR_of h hh ha hb h0 ((yT_t h hE hh ha hb h0 hal).mp q2)⟩
    · obtain ⟨d, e, q2⟩ := x2 (by omega)
      exact ⟨d, by omega, q2⟩
  · rcases mEx2_or q2 with q2 | q2
    · have := x3 d q1 q2
      omega
    · exact r3 d q1 ((yT_t h hE hh ha hb h0 hal).mpr q2)
theorem cB_n (h : cIv n C Z t) (hE : cEq n C C2) (hh : C 8 t 7 = (lh : Int)) (ha : 0 ≤ a ∧ a < (n 5 : Int)) (hb : 0 ≤ b ∧ b < (n 5 : Int)) (h0 : ¬ yBefore C lh t = 0) (hal : ¬ yAllow C2 a b) {made best x : Int} (hx : cB (yV n C Z) (t : Int) made best (fun d => mEx2 d (yV n C Z) (t : Int) a b) x) : cB (yV n C Z) (t : Int) made best (fun d => mEx2 d (yV n C Z) (t : Int) a (b + 1)) x :=
  hx.mono fun d q => (mEx2_or q).resolve_right (yT_f h hE hh ha hb h0 hal)
theorem mEx_un {d : Nat} {S : ts_St} {t y w : Int} (hw : w = S 0 0 0) (h : mEx d S t (y + 1)) : mEx2 d S t y w := by
  obtain ⟨a, b, h1, h2, h3⟩ := h
  by_cases ha : a = y
  · subst ha
    exact Or.inr ⟨b, by omega, h3⟩
  · exact Or.inl ⟨a, b, by omega, h2, h3⟩
theorem cB_end (h : cIv n C Z t) (hh : C 8 t 7 = (lh : Int)) (h0 : ¬ yBefore C lh t = 0) {made best x y : Int} (hy : y = (n 5 : Int)) (hx : cB (yV n C Z) (t : Int) made best (fun d => mEx d (yV n C Z) (t : Int) y) x) : cBest (yV n C Z) (t : Int) made best x := by
  obtain ⟨x1, x2, x3⟩ := hx
  refine ⟨x1, fun q => ?_, fun d q1 q2 => ?_⟩
  · obtain ⟨d, e, q2⟩ := x2 q
    exact ⟨d + 1, by omega, q2⟩
  · have q3 := yR_le h hh q2
    have q4 := h.bR hh
    obtain ⟨d, rfl⟩ := Nat.exists_eq_succ_of_ne_zero (n := d) (by omega)
    have := x3 d (by omega) (by
      rcases q2 with q2 | ⟨-, a, b, h1, h2, h3⟩
      · rw [h.ah hh] at q2
        exact absurd q2 h0
      · exact ⟨a, b, by rw [hy]; exact h1, h2, h3⟩)
    omega
theorem cBest_0 (h : cIv n C Z t) (hh : C 8 t 7 = (lh : Int)) (h0 : yBefore C lh t = 0) {made best : Int} : cBest (yV n C Z) (t : Int) made best (min made best) := by
  refine ⟨by omega, fun q => ⟨0, by omega, yR_0 h hh h0⟩, fun d _ _ => by omega⟩
theorem cBest_b (h : cIv n C Z t) (hh : C 8 t 7 = (lh : Int)) (h0 : ¬ yBefore C lh t = 0) {made best : Int} (hm : 4 ≤ made ∨ best ≤ made + 1) : cBest (yV n C Z) (t : Int) made best best := by
  refine ⟨Int.le_refl _, fun q => absurd q (Int.lt_irrefl _), fun d q1 q2 => ?_⟩
  have q3 := yR_le h hh q2
  have q4 := h.bR hh
  omega
end CS

set_option maxHeartbeats 4000000 in
set_option maxRecDepth 100000 in
theorem c_X4_isReachedWithin_0 (l : Launch) (D : va_G) (cA : Nat → ClassId) (n : Nat → Nat) (am : ts_Am) (S : ts_St) (sz : Nat) (lh t : Nat) (v : Int) (Z : ts_St) (hW : cW n S) (hl0 : lh < n 5) (ht : t < n 8) (hIv : cIv n S Z t) (hh : S 8 t 7 = (lh : Int)) (hv : v = 0) : Met l yX4_isReachedWithin wsX4_isReachedWithin ({ frames := 1, cells := 0, slots := 0, locals := 21 } : Room) (va_Pc [.ref (am 1 0), .ref (am 5 lh), .ref (am 8 t), .int (iZ v)] (zP TX D cA (n, am, S) sz)) (zQi TX D cA (n, am, S) sz (fun z u => ∃ S9, u = (n, am, S9) ∧ cEq n S S9 ∧ z = zB (mRch 0 (yV n S Z) (t : Int)))) 0 0 (ts_A (n, am, S) sz) := by
  refine zM_of (by decide) rfl (Nat.le_of_ble_eq_true rfl) ?_
  intro p e s m below meth c hx hb hr hts hown hlocks hml hname hK hsz H locs hI ls hl
  subst hsz
  have hown : s.vm.findClass RX4 = some m.cls := hown
  have hl : lv_has ls 8 [(0, .ref (am 1 0)), (1, .ref (am 5 lh)), (2, .ref (am 8 t)), (3, .int (iZ v))] := hl
  have hcn := hW.cn
  have hlim := hW.lim
  have hbR := hIv.bR hh
  refine lv_aload_n hx hb dX4_isReachedWithin_0 rfl (lv_at hl 1 rfl) ?_
  refine lv_aload_n hx hb dX4_isReachedWithin_1 rfl (lv_at hl 2 rfl) ?_
  refine zc_i (zrV (As := [.ref (am 8 t)]) (rest := []) (κ := 5) (i := lh) ⟨hx, hb, hml, hown, hts⟩ (c_X2_countBefore l D cA n am S H.size lh t hl0 ht) (cwV 1 hts gX4_isReachedWithin_X2_countBefore rfl rfl rfl (by decide +kernel) ⟨Nat.le_of_ble_eq_true rfl, Nat.le_of_ble_eq_true rfl⟩) hK hI hl0 rfl rfl rfl hl.1 rfl (Nat.le_of_ble_eq_true rfl) dX4_isReachedWithin_2 ⟨Nat.le_of_ble_eq_true rfl, Nat.le_of_ble_eq_true rfl⟩) hI (fun z1 u9 H locs hz2 hp3 hI hfr => ?_)
  clear hfr
  obtain ⟨rfl, rfl⟩ := hp3
  refine lv_istore (lv' := [(4, .int (iZ (yBefore S lh t))), (0, .ref (am 1 0)), (1, .ref (am 5 lh)), (2, .ref (am 8 t)), (3, .int (iZ v))]) hx hb dX4_isReachedWithin_5 hl (by decide) rfl (fun ls hl => ?_)
  refine lv_iload hx hb dX4_isReachedWithin_7 (lv_at hl 0 rfl) ?_
  refine z_if_ne (tgt := 14) hx hb dX4_isReachedWithin_9 (by decide) (by omega) (fun c4 => ?_) (fun c4 => ?_)
  · skip
    have hah0 := c4
    refine lv_iload_n hx hb dX4_isReachedWithin_14 rfl (lv_at hl 4 rfl) ?_
    refine z_if_le (tgt := 24) hx hb dX4_isReachedWithin_15 (by decide) (by omega) (fun c5 => ?_) (fun c5 => ?_)
    · skip
      refine z_iconst hx hb dX4_isReachedWithin_24 ?_
      exact (ze_i (u' := (n, am, S)) (z := 0) hx hb hr (iZ_narz (by omega) (by omega)).1 hI (by omega) ⟨S, rfl, cEq.rfl' n S, (zB_f (fun q => by have := yR_le hIv hh q; omega)).symm⟩ (Nat.le_of_ble_eq_true rfl) (Nat.le_of_ble_eq_true rfl) dX4_isReachedWithin_25 hlocks)
    · skip
      omega
  · skip
    refine z_iconst hx hb dX4_isReachedWithin_12 ?_
    exact (ze_i (u' := (n, am, S)) (z := 1) hx hb hr (iZ_narz (by omega) (by omega)).1 hI (by omega) ⟨S, rfl, cEq.rfl' n S, (zB_t (yR_0 hIv hh c4)).symm⟩ (Nat.le_of_ble_eq_true rfl) (Nat.le_of_ble_eq_true rfl) dX4_isReachedWithin_13 hlocks)
set_option maxHeartbeats 4000000 in
set_option maxRecDepth 100000 in
theorem c_X4_isReachedWithin_1 (l : Launch) (D : va_G) (cA : Nat → ClassId) (n : Nat → Nat) (am : ts_Am) (S : ts_St) (sz : Nat) (lh t : Nat) (v : Int) (Z : ts_St) (hW : cW n S) (hl0 : lh < n 5) (ht : t < n 8) (hIv : cIv n S Z t) (hh : S 8 t 7 = (lh : Int)) (hv : v = 1) : Met l yX4_isReachedWithin wsX4_isReachedWithin ({ frames := 3, cells := 0, slots := 0, locals := 67 } : Room) (va_Pc [.ref (am 1 0), .ref (am 5 lh), .ref (am 8 t), .int (iZ v)] (zP TX D cA (n, am, S) sz)) (zQi TX D cA (n, am, S) sz (fun z u => ∃ S9, u = (n, am, S9) ∧ cEq n S S9 ∧ z = zB (mRch 1 (yV n S Z) (t : Int)))) 0 0 (ts_A (n, am, S) sz) := by
  refine zM_of (by decide) rfl (Nat.le_of_ble_eq_true rfl) ?_
  intro p e s m below meth c hx hb hr hts hown hlocks hml hname hK hsz H locs hI ls hl
  subst hsz
  have hown : s.vm.findClass RX4 = some m.cls := hown
  have hl : lv_has ls 8 [(0, .ref (am 1 0)), (1, .ref (am 5 lh)), (2, .ref (am 8 t)), (3, .int (iZ v))] := hl
  have f55 := hts (.fieldLink RX4 55 "DockyardSlots$LaneRow" "count" "I") (by decide +kernel)
  have LX3 : ∀ w ∈ wsX30, w.before [.ref (am 1 0), .ref (am 5 lh), .ref (am 8 t), .int (iZ v)].toArray s = true := fun w h => hts w (List.mem_cons_of_mem _ (List.mem_append_left _ (List.mem_append_left _ (List.mem_append_right _ h))))
  have hcn := hW.cn
  have hlim := hW.lim
  have hbR := hIv.bR hh
  refine lv_aload_n hx hb dX4_isReachedWithin_0 rfl (lv_at hl 1 rfl) ?_
  refine lv_aload_n hx hb dX4_isReachedWithin_1 rfl (lv_at hl 2 rfl) ?_
  refine zc_i (zrV (As := [.ref (am 8 t)]) (rest := []) (κ := 5) (i := lh) ⟨hx, hb, hml, hown, hts⟩ (c_X2_countBefore l D cA n am S H.size lh t hl0 ht) (cwV 1 hts gX4_isReachedWithin_X2_countBefore rfl rfl rfl (by decide +kernel) ⟨Nat.le_of_ble_eq_true rfl, Nat.le_of_ble_eq_true rfl⟩) hK hI hl0 rfl rfl rfl hl.1 rfl (Nat.le_of_ble_eq_true rfl) dX4_isReachedWithin_2 ⟨Nat.le_of_ble_eq_true rfl, Nat.le_of_ble_eq_true rfl⟩) hI (fun z1 u9 H locs hz2 hp3 hI hfr => ?_)
  clear hfr
  obtain ⟨rfl, rfl⟩ := hp3
  refine lv_istore (lv' := [(4, .int (iZ (yBefore S lh t))), (0, .ref (am 1 0)), (1, .ref (am 5 lh)), (2, .ref (am 8 t)), (3, .int (iZ v))]) hx hb dX4_isReachedWithin_5 hl (by decide) rfl (fun ls hl => ?_)
  refine lv_iload hx hb dX4_isReachedWithin_7 (lv_at hl 0 rfl) ?_
  refine z_if_ne (tgt := 14) hx hb dX4_isReachedWithin_9 (by decide) (by omega) (fun c4 => ?_) (fun c4 => ?_)
  · skip
    have hah0 := c4
    refine lv_iload_n hx hb dX4_isReachedWithin_14 rfl (lv_at hl 4 rfl) ?_
    refine z_if_le (tgt := 24) hx hb dX4_isReachedWithin_15 (by decide) (by omega) (fun c5 => ?_) (fun c5 => ?_)
    · skip
      refine z_iconst hx hb dX4_isReachedWithin_24 ?_
      exact (ze_i (u' := (n, am, S)) (z := 0) hx hb hr (iZ_narz (by omega) (by omega)).1 hI (by omega) ⟨S, rfl, cEq.rfl' n S, (zB_f (fun q => by have := yR_le hIv hh q; omega)).symm⟩ (Nat.le_of_ble_eq_true rfl) (Nat.le_of_ble_eq_true rfl) dX4_isReachedWithin_25 hlocks)
    · skip
      refine lv_iload hx hb dX4_isReachedWithin_18 (lv_at hl 0 rfl) ?_
      refine lv_iload_n hx hb dX4_isReachedWithin_20 rfl (lv_at hl 4 rfl) ?_
      refine z_icmp_le (tgt := 26) hx hb dX4_isReachedWithin_21 (by decide) (by omega) (by omega) (fun c6 => ?_) (fun c6 => ?_)
      · skip
        refine z_iconst hx hb dX4_isReachedWithin_26 ?_
        refine lv_istore (lv' := [(5, .int (iZ 0)), (4, .int (iZ (yBefore S lh t))), (0, .ref (am 1 0)), (1, .ref (am 5 lh)), (2, .ref (am 8 t)), (3, .int (iZ v))]) hx hb dX4_isReachedWithin_27 hl (by decide) rfl (fun ls hl => ?_)
        refine z_iconst hx hb dX4_isReachedWithin_29 ?_
        refine lv_istore (lv' := [(6, .int (iZ 0)), (5, .int (iZ 0)), (4, .int (iZ (yBefore S lh t))), (0, .ref (am 1 0)), (1, .ref (am 5 lh)), (2, .ref (am 8 t)), (3, .int (iZ v))]) hx hb dX4_isReachedWithin_30 hl (by decide) rfl (fun ls hl => ?_)
        obtain ⟨x, e_x⟩ : ∃ z : Int, z = 0 := ⟨_, rfl⟩
        obtain ⟨y, e_y⟩ : ∃ z : Int, z = 0 := ⟨_, rfl⟩
        replace hl : lv_has ls 8 [(6, .int (iZ y)), (5, .int (iZ x)), (4, .int (iZ (yBefore S lh t))), (0, .ref (am 1 0)), (1, .ref (am 5 lh)), (2, .ref (am 8 t)), (3, .int (iZ v))] := by rw [e_x, e_y]; exact hl
        obtain ⟨S1, e_S1⟩ : ∃ z, z = S := ⟨_, rfl⟩
        rw [← e_S1] at hI
        replace hW : cW n S1 := by rw [e_S1]; exact hW
        have h1 : 0 ≤ y ∧ y ≤ (n 5 : Int) := by omega
        have h2 : cEq n S S1 := by rw [e_S1]; exact cEq.rfl' n S
        have h3 : x = zB (mEx 0 (yV n S Z) (t : Int) y) := by rw [e_x, e_y]; exact (zB_f mEx_0).symm
        have h4 : 0 ≤ x ∧ x < 2 := by omega
        obtain ⟨k32, hk32⟩ : ∃ k : Nat, (n 5 : Int) - y < (k : Int) := ⟨((n 5 : Int) - y).toNat + 1, by omega⟩
        clear e_x e_y e_S1
        induction k32 generalizing x y S1 H locs ls with
        | zero => omega
        | succ k32 ih32 =>
          refine lv_iload hx hb dX4_isReachedWithin_32 (lv_at hl 0 rfl) ?_
          refine lv_aload_n hx hb dX4_isReachedWithin_34 rfl (lv_at hl 3 rfl) ?_
          refine zg_i (κ := 1) (i := 0) (k := 1) hx hb LX3 hown hK hI hW.1.2.1 rfl rfl (by decide) rfl f55 (fun _ h9 => h9) dX4_isReachedWithin_35 rfl (fun b7 => ?_)
          have hcn1 := hW.cn
          refine z_icmp_ge (tgt := 113) hx hb dX4_isReachedWithin_38 (by decide) (by omega) (by omega) (fun c8 => ?_) (fun c8 => ?_)
          · skip
            have hend : zB (mEx 0 (yV n S Z) (t : Int) y) = zB (mRch 1 (yV n S Z) (t : Int)) := zB_iff ⟨fun q => mRch_ex (by rw [hIv.ah hh]; exact hah0) (by rw [hIv.ah hh]; omega) q (by rw [yV_lanes]; omega), fun q => Classical.byContradiction fun z => mRch_nex (by rw [hIv.ah hh]; exact hah0) z (by rw [yV_lanes]; omega) q⟩
            refine lv_iload hx hb dX4_isReachedWithin_113 (lv_at hl 1 rfl) ?_
            exact (ze_i (u' := (n, am, S1)) (z := x) hx hb hr (iZ_narz (by omega) (by omega)).1 hI (by omega) ⟨S1, rfl, h2, by rw [h3]; exact hend⟩ (Nat.le_of_ble_eq_true rfl) (Nat.le_of_ble_eq_true rfl) dX4_isReachedWithin_115 hlocks)
          · skip
            refine lv_iload hx hb dX4_isReachedWithin_41 (lv_at hl 1 rfl) ?_
            refine z_if_ne (tgt := 113) hx hb dX4_isReachedWithin_43 (by decide) (by omega) (fun c9 => ?_) (fun c9 => ?_)
            · skip
              have hend : zB (mEx 0 (yV n S Z) (t : Int) y) = zB (mRch 1 (yV n S Z) (t : Int)) := by rw [h3] at c9; rw [zB_t (zB_1 c9), zB_t (mRch_ex (by rw [hIv.ah hh]; exact hah0) (by rw [hIv.ah hh]; omega) (zB_1 c9) (by rw [yV_lanes]; omega))]
              refine lv_iload hx hb dX4_isReachedWithin_113 (lv_at hl 1 rfl) ?_
              exact (ze_i (u' := (n, am, S1)) (z := x) hx hb hr (iZ_narz (by omega) (by omega)).1 hI (by omega) ⟨S1, rfl, h2, by rw [h3]; exact hend⟩ (Nat.le_of_ble_eq_true rfl) (Nat.le_of_ble_eq_true rfl) dX4_isReachedWithin_115 hlocks)
            · skip
              refine z_iconst hx hb dX4_isReachedWithin_46 ?_
              refine lv_istore (lv' := [(7, .int (iZ 0)), (6, .int (iZ y)), (5, .int (iZ x)), (4, .int (iZ (yBefore S lh t))), (0, .ref (am 1 0)), (1, .ref (am 5 lh)), (2, .ref (am 8 t)), (3, .int (iZ v))]) hx hb dX4_isReachedWithin_47 hl (by decide) rfl (fun ls hl => ?_)
              obtain ⟨x2, e_x2⟩ : ∃ z : Int, z = x := ⟨_, rfl⟩
              obtain ⟨w, e_w⟩ : ∃ z : Int, z = 0 := ⟨_, rfl⟩
              replace hl : lv_has ls 8 [(7, .int (iZ w)), (6, .int (iZ y)), (5, .int (iZ x2)), (4, .int (iZ (yBefore S lh t))), (0, .ref (am 1 0)), (1, .ref (am 5 lh)), (2, .ref (am 8 t)), (3, .int (iZ v))] := by rw [e_x2, e_w]; exact hl
              obtain ⟨S2, e_S2⟩ : ∃ z, z = S1 := ⟨_, rfl⟩
              rw [← e_S2] at hI
              replace hW : cW n S2 := by rw [e_S2]; exact hW
              have h1b : 0 ≤ w ∧ w ≤ (n 5 : Int) := by omega
              have h5 : cEq n S S2 := by rw [e_S2]; exact h2
              have h6 : x2 = zB (mEx2 0 (yV n S Z) (t : Int) y w) := by rw [e_x2, e_w, h3]; exact (zB_iff mEx2_0).symm
              have h7 : 0 ≤ x2 ∧ x2 < 2 := by omega
              obtain ⟨k49, hk49⟩ : ∃ k : Nat, (n 5 : Int) - w < (k : Int) := ⟨((n 5 : Int) - w).toNat + 1, by omega⟩
              clear e_x2 e_w e_S2
              induction k49 generalizing x2 w S2 H locs ls with
              | zero => omega
              | succ k49 ih49 =>
                refine lv_iload hx hb dX4_isReachedWithin_49 (lv_at hl 0 rfl) ?_
                refine lv_aload_n hx hb dX4_isReachedWithin_51 rfl (lv_at hl 4 rfl) ?_
                refine zg_i (κ := 1) (i := 0) (k := 1) hx hb LX3 hown hK hI hW.1.2.1 rfl rfl (by decide) rfl f55 (fun _ h9 => h9) dX4_isReachedWithin_52 rfl (fun b10 => ?_)
                have hcn2 := hW.cn
                refine z_icmp_ge (tgt := 107) hx hb dX4_isReachedWithin_55 (by decide) (by omega) (by omega) (fun c11 => ?_) (fun c11 => ?_)
                · skip
                  refine z_iinc (k := 1) (lv' := [(6, .int (iZ (y + 1))), (7, .int (iZ w)), (5, .int (iZ x2)), (4, .int (iZ (yBefore S lh t))), (0, .ref (am 1 0)), (1, .ref (am 5 lh)), (2, .ref (am 8 t)), (3, .int (iZ v))]) hx hb dX4_isReachedWithin_107 hl rfl (by decide) rfl (fun ls hl => ?_)
                  refine lv_goto (tgt := 32) hx hb dX4_isReachedWithin_110 (by decide) ?_
                  exact ih32 (x := x2) (y := (y + 1)) (S1 := S2) (h1 := by omega) (h2 := by exact h5) (h3 := by rw [h6]; exact zB_iff ⟨fun q => mEx_s (by omega) q (by rw [yV_lanes]; omega), fun q => mEx_un (by rw [yV_lanes]; omega) q⟩) (h4 := by omega) (hW := hW) (hk32 := by omega) (hI := hI) (hl := lv_sub hl [0, 2, 3, 4, 5, 6, 7] rfl)
                · skip
                  refine lv_iload hx hb dX4_isReachedWithin_58 (lv_at hl 2 rfl) ?_
                  refine z_if_ne (tgt := 107) hx hb dX4_isReachedWithin_60 (by decide) (by omega) (fun c12 => ?_) (fun c12 => ?_)
                  · skip
                    refine z_iinc (k := 1) (lv' := [(6, .int (iZ (y + 1))), (7, .int (iZ w)), (5, .int (iZ x2)), (4, .int (iZ (yBefore S lh t))), (0, .ref (am 1 0)), (1, .ref (am 5 lh)), (2, .ref (am 8 t)), (3, .int (iZ v))]) hx hb dX4_isReachedWithin_107 hl rfl (by decide) rfl (fun ls hl => ?_)
                    refine lv_goto (tgt := 32) hx hb dX4_isReachedWithin_110 (by decide) ?_
                    exact ih32 (x := x2) (y := (y + 1)) (S1 := S2) (h1 := by omega) (h2 := by exact h5) (h3 := by rw [h6] at c12 ⊢; have q := zB_1 c12; rw [zB_t q, zB_t (mEx_s (by omega) q (by rw [yV_lanes]; omega))]) (h4 := by omega) (hW := hW) (hk32 := by omega) (hI := hI) (hl := lv_sub hl [0, 2, 3, 4, 5, 6, 7] rfl)
                  · skip
                    have hIv2 := hIv.eq h5
                    have hh2 : S2 8 t 7 = (lh : Int) := (h5.1 8 t 7 (by decide)).trans hh
                    have h02 : ¬ yBefore S2 lh t = 0 := by rw [h5.before]; exact hah0
                    have hcn2 := hW.cn
                    refine lv_aload_n hx hb dX4_isReachedWithin_63 rfl (lv_at hl 4 rfl) ?_
                    refine lv_iload hx hb dX4_isReachedWithin_64 (lv_at hl 1 rfl) ?_
                    refine lv_iload hx hb dX4_isReachedWithin_66 (lv_at hl 0 rfl) ?_
                    refine zc_i (zrV (As := [.int (iZ y), .int (iZ w)]) (rest := []) (κ := 1) (i := 0) ⟨hx, hb, hml, hown, hts⟩ (c_X3_allowMove l D cA n am S2 H.size y w hW (by omega) (by omega)) (cwV 2 hts gX4_isReachedWithin_X3_allowMove rfl rfl rfl (by decide +kernel) ⟨Nat.le_of_ble_eq_true rfl, Nat.le_of_ble_eq_true rfl⟩) hK hI hW.1.2.1 rfl rfl rfl hl.1 rfl (Nat.le_of_ble_eq_true rfl) dX4_isReachedWithin_68 ⟨Nat.le_of_ble_eq_true rfl, Nat.le_of_ble_eq_true rfl⟩) hI (fun z13 u9 H locs hz14 hp15 hI hfr => ?_)
                    clear hfr
                    obtain ⟨rfl, rfl⟩ := hp15
                    refine z_if_eq (tgt := 101) hx hb dX4_isReachedWithin_71 (by decide) (by omega) (fun c16 => ?_) (fun c16 => ?_)
                    · skip
                      have c16 := zB_0 c16
                      refine z_iinc (k := 0) (lv' := [(7, .int (iZ (w + 1))), (6, .int (iZ y)), (5, .int (iZ x2)), (4, .int (iZ (yBefore S lh t))), (0, .ref (am 1 0)), (1, .ref (am 5 lh)), (2, .ref (am 8 t)), (3, .int (iZ v))]) hx hb dX4_isReachedWithin_101 hl rfl (by decide) rfl (fun ls hl => ?_)
                      refine lv_goto (tgt := 49) hx hb dX4_isReachedWithin_104 (by decide) ?_
                      exact ih49 (x2 := x2) (w := (w + 1)) (S2 := S2) (h1b := by omega) (h5 := by exact h5) (h6 := by have q := zB_0 (by rw [← h6]; exact c12); rw [h6, zB_f q, zB_f (fun z => yT_f hIv h5 hh (by omega) (by omega) hah0 c16 ((mEx2_s q (by omega)).mp z))]) (h7 := by omega) (hW := hW) (hk49 := by omega) (hI := hI) (hl := lv_sub hl [0, 1, 2, 3, 4, 5, 6, 7] rfl)
                    · skip
                      have c16 := zB_1 c16
                      refine lv_aload_n hx hb dX4_isReachedWithin_74 rfl (lv_at hl 4 rfl) ?_
                      refine lv_iload hx hb dX4_isReachedWithin_75 (lv_at hl 1 rfl) ?_
                      refine lv_iload hx hb dX4_isReachedWithin_77 (lv_at hl 0 rfl) ?_
                      refine zc_v (zrV (As := [.int (iZ y), .int (iZ w)]) (rest := []) (κ := 1) (i := 0) ⟨hx, hb, hml, hown, hts⟩ (c_X3_moveNearest l D cA n am S2 H.size y w hW (by omega) (by omega)) (cwV 2 hts gX4_isReachedWithin_X3_moveNearest rfl rfl rfl (by decide +kernel) ⟨Nat.le_of_ble_eq_true rfl, Nat.le_of_ble_eq_true rfl⟩) hK hI hW.1.2.1 rfl rfl rfl hl.1 rfl (Nat.le_of_ble_eq_true rfl) dX4_isReachedWithin_79 ⟨Nat.le_of_ble_eq_true rfl, Nat.le_of_ble_eq_true rfl⟩) hI (fun u9 H locs hp17 hI hfr => ?_)
                      clear hfr
                      obtain rfl := hp17
                      obtain ⟨S18, eS18⟩ : ∃ z, z = yMove S2 y w := ⟨_, rfl⟩
                      rw [← eS18] at hI
                      have hW : cW n S18 := by rw [eS18]; exact yMove_W hW
                      obtain ⟨hIv3, hh3, -⟩ := hIv2.mv hh2 (a := y) (b := w) (by omega) (by omega) h02 c16
                      rw [← eS18] at hIv3 hh3
                      refine lv_aload_n hx hb dX4_isReachedWithin_82 rfl (lv_at hl 4 rfl) ?_
                      refine lv_aload_n hx hb dX4_isReachedWithin_83 rfl (lv_at hl 5 rfl) ?_
                      refine lv_aload_n hx hb dX4_isReachedWithin_84 rfl (lv_at hl 6 rfl) ?_
                      refine lv_iload_n hx hb dX4_isReachedWithin_85 rfl (lv_at hl 7 rfl) ?_
                      refine z_iconst hx hb dX4_isReachedWithin_86 ?_
                      refine z_isub hx hb dX4_isReachedWithin_87 ?_
                      refine zc_i (zrS (As := [.ref (am 1 0), .ref (am 5 lh), .ref (am 8 t), .int (iZ (v - 1))]) (rest := []) ⟨hx, hb, hml, hown, hts⟩ (c_X4_isReachedWithin_0 l D cA n am S18 H.size lh t (v - 1) Z hW hl0 ht hIv3 hh3 (by omega)) (va_cwS 4 hts gX4_isReachedWithin_X4_isReachedWithin rfl rfl rfl (by decide +kernel) ⟨Nat.le_of_ble_eq_true rfl, Nat.le_of_ble_eq_true rfl⟩) hK hI rfl hl.1 rfl (Nat.le_of_ble_eq_true rfl) dX4_isReachedWithin_88 ⟨Nat.le_of_ble_eq_true rfl, Nat.le_of_ble_eq_true rfl⟩) hI (fun z19 u9 H locs hz20 hp21 hI hfr => ?_)
                      clear hfr
                      obtain ⟨S22, rfl, hS22, rfl⟩ := hp21
                      have hW : cW n S22 := hS22.W hW
                      refine lv_istore (lv' := [(5, .int (iZ (zB (mRch 0 (yV n S18 Z) (t : Int))))), (7, .int (iZ w)), (6, .int (iZ y)), (4, .int (iZ (yBefore S lh t))), (0, .ref (am 1 0)), (1, .ref (am 5 lh)), (2, .ref (am 8 t)), (3, .int (iZ v))]) hx hb dX4_isReachedWithin_91 hl (by decide) rfl (fun ls hl => ?_)
                      refine lv_aload_n hx hb dX4_isReachedWithin_93 rfl (lv_at hl 4 rfl) ?_
                      refine lv_iload hx hb dX4_isReachedWithin_94 (lv_at hl 1 rfl) ?_
                      refine lv_iload hx hb dX4_isReachedWithin_96 (lv_at hl 2 rfl) ?_
                      refine zc_v (zrV (As := [.int (iZ w), .int (iZ y)]) (rest := []) (κ := 1) (i := 0) ⟨hx, hb, hml, hown, hts⟩ (c_X3_moveNearest l D cA n am S22 H.size w y hW (by omega) (by omega)) (cwV 2 hts gX4_isReachedWithin_X3_moveNearest rfl rfl rfl (by decide +kernel) ⟨Nat.le_of_ble_eq_true rfl, Nat.le_of_ble_eq_true rfl⟩) hK hI hW.1.2.1 rfl rfl rfl hl.1 rfl (Nat.le_of_ble_eq_true rfl) dX4_isReachedWithin_98 ⟨Nat.le_of_ble_eq_true rfl, Nat.le_of_ble_eq_true rfl⟩) hI (fun u9 H locs hp23 hI hfr => ?_)
                      clear hfr
                      obtain rfl := hp23
                      obtain ⟨S24, eS24⟩ : ∃ z, z = yMove S22 w y := ⟨_, rfl⟩
                      rw [← eS24] at hI
                      have hW : cW n S24 := by rw [eS24]; exact yMove_W hW
                      refine z_iinc (k := 1) (lv' := [(7, .int (iZ (w + 1))), (5, .int (iZ (zB (mRch 0 (yV n S18 Z) (t : Int))))), (6, .int (iZ y)), (4, .int (iZ (yBefore S lh t))), (0, .ref (am 1 0)), (1, .ref (am 5 lh)), (2, .ref (am 8 t)), (3, .int (iZ v))]) hx hb dX4_isReachedWithin_101 hl rfl (by decide) rfl (fun ls hl => ?_)
                      refine lv_goto (tgt := 49) hx hb dX4_isReachedWithin_104 (by decide) ?_
                      exact ih49 (x2 := zB (mRch 0 (yV n S18 Z) (t : Int))) (w := (w + 1)) (S2 := S24) (h1b := by omega) (h5 := by rw [eS24]; exact h5.trans (yBack hIv2.1 hIv2.2.2.1 (by omega) (by omega) c16 (by rw [← eS18]; exact hS22))) (h6 := by have q := zB_0 (by rw [← h6]; exact c12); rw [eS18, zB_iff (yT_t hIv h5 hh (by omega) (by omega) hah0 c16), zB_iff (mEx2_s q (by omega))]) (h7 := by exact zB_R _) (hW := hW) (hk49 := by omega) (hI := hI) (hl := lv_sub hl [0, 2, 1, 3, 4, 5, 6, 7] rfl)
      · skip
        refine z_iconst hx hb dX4_isReachedWithin_24 ?_
        exact (ze_i (u' := (n, am, S)) (z := 0) hx hb hr (iZ_narz (by omega) (by omega)).1 hI (by omega) ⟨S, rfl, cEq.rfl' n S, (zB_f (fun q => by have := yR_le hIv hh q; omega)).symm⟩ (Nat.le_of_ble_eq_true rfl) (Nat.le_of_ble_eq_true rfl) dX4_isReachedWithin_25 hlocks)
  · skip
    refine z_iconst hx hb dX4_isReachedWithin_12 ?_
    exact (ze_i (u' := (n, am, S)) (z := 1) hx hb hr (iZ_narz (by omega) (by omega)).1 hI (by omega) ⟨S, rfl, cEq.rfl' n S, (zB_t (yR_0 hIv hh c4)).symm⟩ (Nat.le_of_ble_eq_true rfl) (Nat.le_of_ble_eq_true rfl) dX4_isReachedWithin_13 hlocks)
set_option maxHeartbeats 4000000 in
set_option maxRecDepth 100000 in
theorem c_X4_isReachedWithin_2 (l : Launch) (D : va_G) (cA : Nat → ClassId) (n : Nat → Nat) (am : ts_Am) (S : ts_St) (sz : Nat) (lh t : Nat) (v : Int) (Z : ts_St) (hW : cW n S) (hl0 : lh < n 5) (ht : t < n 8) (hIv : cIv n S Z t) (hh : S 8 t 7 = (lh : Int)) (hv : v = 2) : Met l yX4_isReachedWithin wsX4_isReachedWithin ({ frames := 4, cells := 0, slots := 0, locals := 94 } : Room) (va_Pc [.ref (am 1 0), .ref (am 5 lh), .ref (am 8 t), .int (iZ v)] (zP TX D cA (n, am, S) sz)) (zQi TX D cA (n, am, S) sz (fun z u => ∃ S9, u = (n, am, S9) ∧ cEq n S S9 ∧ z = zB (mRch 2 (yV n S Z) (t : Int)))) 0 0 (ts_A (n, am, S) sz) := by
  refine zM_of (by decide) rfl (Nat.le_of_ble_eq_true rfl) ?_
  intro p e s m below meth c hx hb hr hts hown hlocks hml hname hK hsz H locs hI ls hl
  subst hsz
  have hown : s.vm.findClass RX4 = some m.cls := hown
  have hl : lv_has ls 8 [(0, .ref (am 1 0)), (1, .ref (am 5 lh)), (2, .ref (am 8 t)), (3, .int (iZ v))] := hl
  have f55 := hts (.fieldLink RX4 55 "DockyardSlots$LaneRow" "count" "I") (by decide +kernel)
  have LX3 : ∀ w ∈ wsX30, w.before [.ref (am 1 0), .ref (am 5 lh), .ref (am 8 t), .int (iZ v)].toArray s = true := fun w h => hts w (List.mem_cons_of_mem _ (List.mem_append_left _ (List.mem_append_left _ (List.mem_append_right _ h))))
  have hcn := hW.cn
  have hlim := hW.lim
  have hbR := hIv.bR hh
  refine lv_aload_n hx hb dX4_isReachedWithin_0 rfl (lv_at hl 1 rfl) ?_
  refine lv_aload_n hx hb dX4_isReachedWithin_1 rfl (lv_at hl 2 rfl) ?_
  refine zc_i (zrV (As := [.ref (am 8 t)]) (rest := []) (κ := 5) (i := lh) ⟨hx, hb, hml, hown, hts⟩ (c_X2_countBefore l D cA n am S H.size lh t hl0 ht) (cwV 1 hts gX4_isReachedWithin_X2_countBefore rfl rfl rfl (by decide +kernel) ⟨Nat.le_of_ble_eq_true rfl, Nat.le_of_ble_eq_true rfl⟩) hK hI hl0 rfl rfl rfl hl.1 rfl (Nat.le_of_ble_eq_true rfl) dX4_isReachedWithin_2 ⟨Nat.le_of_ble_eq_true rfl, Nat.le_of_ble_eq_true rfl⟩) hI (fun z1 u9 H locs hz2 hp3 hI hfr => ?_)
  clear hfr
  obtain ⟨rfl, rfl⟩ := hp3
  refine lv_istore (lv' := [(4, .int (iZ (yBefore S lh t))), (0, .ref (am 1 0)), (1, .ref (am 5 lh)), (2, .ref (am 8 t)), (3, .int (iZ v))]) hx hb dX4_isReachedWithin_5 hl (by decide) rfl (fun ls hl => ?_)
  refine lv_iload hx hb dX4_isReachedWithin_7 (lv_at hl 0 rfl) ?_
  refine z_if_ne (tgt := 14) hx hb dX4_isReachedWithin_9 (by decide) (by omega) (fun c4 => ?_) (fun c4 => ?_)
  · skip
    have hah0 := c4
    refine lv_iload_n hx hb dX4_isReachedWithin_14 rfl (lv_at hl 4 rfl) ?_
    refine z_if_le (tgt := 24) hx hb dX4_isReachedWithin_15 (by decide) (by omega) (fun c5 => ?_) (fun c5 => ?_)
    · skip
      refine z_iconst hx hb dX4_isReachedWithin_24 ?_
      exact (ze_i (u' := (n, am, S)) (z := 0) hx hb hr (iZ_narz (by omega) (by omega)).1 hI (by omega) ⟨S, rfl, cEq.rfl' n S, (zB_f (fun q => by have := yR_le hIv hh q; omega)).symm⟩ (Nat.le_of_ble_eq_true rfl) (Nat.le_of_ble_eq_true rfl) dX4_isReachedWithin_25 hlocks)
    · skip
      refine lv_iload hx hb dX4_isReachedWithin_18 (lv_at hl 0 rfl) ?_
      refine lv_iload_n hx hb dX4_isReachedWithin_20 rfl (lv_at hl 4 rfl) ?_
      refine z_icmp_le (tgt := 26) hx hb dX4_isReachedWithin_21 (by decide) (by omega) (by omega) (fun c6 => ?_) (fun c6 => ?_)
      · skip
        refine z_iconst hx hb dX4_isReachedWithin_26 ?_
        refine lv_istore (lv' := [(5, .int (iZ 0)), (4, .int (iZ (yBefore S lh t))), (0, .ref (am 1 0)), (1, .ref (am 5 lh)), (2, .ref (am 8 t)), (3, .int (iZ v))]) hx hb dX4_isReachedWithin_27 hl (by decide) rfl (fun ls hl => ?_)
        refine z_iconst hx hb dX4_isReachedWithin_29 ?_
        refine lv_istore (lv' := [(6, .int (iZ 0)), (5, .int (iZ 0)), (4, .int (iZ (yBefore S lh t))), (0, .ref (am 1 0)), (1, .ref (am 5 lh)), (2, .ref (am 8 t)), (3, .int (iZ v))]) hx hb dX4_isReachedWithin_30 hl (by decide) rfl (fun ls hl => ?_)
        obtain ⟨x, e_x⟩ : ∃ z : Int, z = 0 := ⟨_, rfl⟩
        obtain ⟨y, e_y⟩ : ∃ z : Int, z = 0 := ⟨_, rfl⟩
        replace hl : lv_has ls 8 [(6, .int (iZ y)), (5, .int (iZ x)), (4, .int (iZ (yBefore S lh t))), (0, .ref (am 1 0)), (1, .ref (am 5 lh)), (2, .ref (am 8 t)), (3, .int (iZ v))] := by rw [e_x, e_y]; exact hl
        obtain ⟨S1, e_S1⟩ : ∃ z, z = S := ⟨_, rfl⟩
        rw [← e_S1] at hI
        replace hW : cW n S1 := by rw [e_S1]; exact hW
        have h1 : 0 ≤ y ∧ y ≤ (n 5 : Int) := by omega
        have h2 : cEq n S S1 := by rw [e_S1]; exact cEq.rfl' n S
        have h3 : x = zB (mEx 1 (yV n S Z) (t : Int) y) := by rw [e_x, e_y]; exact (zB_f mEx_0).symm
        have h4 : 0 ≤ x ∧ x < 2 := by omega
        obtain ⟨k32, hk32⟩ : ∃ k : Nat, (n 5 : Int) - y < (k : Int) := ⟨((n 5 : Int) - y).toNat + 1, by omega⟩
        clear e_x e_y e_S1
        induction k32 generalizing x y S1 H locs ls with
        | zero => omega
        | succ k32 ih32 =>
          refine lv_iload hx hb dX4_isReachedWithin_32 (lv_at hl 0 rfl) ?_
          refine lv_aload_n hx hb dX4_isReachedWithin_34 rfl (lv_at hl 3 rfl) ?_
          refine zg_i (κ := 1) (i := 0) (k := 1) hx hb LX3 hown hK hI hW.1.2.1 rfl rfl (by decide) rfl f55 (fun _ h9 => h9) dX4_isReachedWithin_35 rfl (fun b7 => ?_)
          have hcn1 := hW.cn
          refine z_icmp_ge (tgt := 113) hx hb dX4_isReachedWithin_38 (by decide) (by omega) (by omega) (fun c8 => ?_) (fun c8 => ?_)
          · skip
            have hend : zB (mEx 1 (yV n S Z) (t : Int) y) = zB (mRch 2 (yV n S Z) (t : Int)) := zB_iff ⟨fun q => mRch_ex (by rw [hIv.ah hh]; exact hah0) (by rw [hIv.ah hh]; omega) q (by rw [yV_lanes]; omega), fun q => Classical.byContradiction fun z => mRch_nex (by rw [hIv.ah hh]; exact hah0) z (by rw [yV_lanes]; omega) q⟩
            refine lv_iload hx hb dX4_isReachedWithin_113 (lv_at hl 1 rfl) ?_
            exact (ze_i (u' := (n, am, S1)) (z := x) hx hb hr (iZ_narz (by omega) (by omega)).1 hI (by omega) ⟨S1, rfl, h2, by rw [h3]; exact hend⟩ (Nat.le_of_ble_eq_true rfl) (Nat.le_of_ble_eq_true rfl) dX4_isReachedWithin_115 hlocks)
          · skip
            refine lv_iload hx hb dX4_isReachedWithin_41 (lv_at hl 1 rfl) ?_
            refine z_if_ne (tgt := 113) hx hb dX4_isReachedWithin_43 (by decide) (by omega) (fun c9 => ?_) (fun c9 => ?_)
            · skip
              have hend : zB (mEx 1 (yV n S Z) (t : Int) y) = zB (mRch 2 (yV n S Z) (t : Int)) := by rw [h3] at c9; rw [zB_t (zB_1 c9), zB_t (mRch_ex (by rw [hIv.ah hh]; exact hah0) (by rw [hIv.ah hh]; omega) (zB_1 c9) (by rw [yV_lanes]; omega))]
              refine lv_iload hx hb dX4_isReachedWithin_113 (lv_at hl 1 rfl) ?_
              exact (ze_i (u' := (n, am, S1)) (z := x) hx hb hr (iZ_narz (by omega) (by omega)).1 hI (by omega) ⟨S1, rfl, h2, by rw [h3]; exact hend⟩ (Nat.le_of_ble_eq_true rfl) (Nat.le_of_ble_eq_true rfl) dX4_isReachedWithin_115 hlocks)
            · skip
              refine z_iconst hx hb dX4_isReachedWithin_46 ?_
              refine lv_istore (lv' := [(7, .int (iZ 0)), (6, .int (iZ y)), (5, .int (iZ x)), (4, .int (iZ (yBefore S lh t))), (0, .ref (am 1 0)), (1, .ref (am 5 lh)), (2, .ref (am 8 t)), (3, .int (iZ v))]) hx hb dX4_isReachedWithin_47 hl (by decide) rfl (fun ls hl => ?_)
              obtain ⟨x2, e_x2⟩ : ∃ z : Int, z = x := ⟨_, rfl⟩
              obtain ⟨w, e_w⟩ : ∃ z : Int, z = 0 := ⟨_, rfl⟩
              replace hl : lv_has ls 8 [(7, .int (iZ w)), (6, .int (iZ y)), (5, .int (iZ x2)), (4, .int (iZ (yBefore S lh t))), (0, .ref (am 1 0)), (1, .ref (am 5 lh)), (2, .ref (am 8 t)), (3, .int (iZ v))] := by rw [e_x2, e_w]; exact hl
              obtain ⟨S2, e_S2⟩ : ∃ z, z = S1 := ⟨_, rfl⟩
              rw [← e_S2] at hI
              replace hW : cW n S2 := by rw [e_S2]; exact hW
              have h1b : 0 ≤ w ∧ w ≤ (n 5 : Int) := by omega
              have h5 : cEq n S S2 := by rw [e_S2]; exact h2
              have h6 : x2 = zB (mEx2 1 (yV n S Z) (t : Int) y w) := by rw [e_x2, e_w, h3]; exact (zB_iff mEx2_0).symm
              have h7 : 0 ≤ x2 ∧ x2 < 2 := by omega
              obtain ⟨k49, hk49⟩ : ∃ k : Nat, (n 5 : Int) - w < (k : Int) := ⟨((n 5 : Int) - w).toNat + 1, by omega⟩
              clear e_x2 e_w e_S2
              induction k49 generalizing x2 w S2 H locs ls with
              | zero => omega
              | succ k49 ih49 =>
                refine lv_iload hx hb dX4_isReachedWithin_49 (lv_at hl 0 rfl) ?_
                refine lv_aload_n hx hb dX4_isReachedWithin_51 rfl (lv_at hl 4 rfl) ?_
                refine zg_i (κ := 1) (i := 0) (k := 1) hx hb LX3 hown hK hI hW.1.2.1 rfl rfl (by decide) rfl f55 (fun _ h9 => h9) dX4_isReachedWithin_52 rfl (fun b10 => ?_)
                have hcn2 := hW.cn
                refine z_icmp_ge (tgt := 107) hx hb dX4_isReachedWithin_55 (by decide) (by omega) (by omega) (fun c11 => ?_) (fun c11 => ?_)
                · skip
                  refine z_iinc (k := 1) (lv' := [(6, .int (iZ (y + 1))), (7, .int (iZ w)), (5, .int (iZ x2)), (4, .int (iZ (yBefore S lh t))), (0, .ref (am 1 0)), (1, .ref (am 5 lh)), (2, .ref (am 8 t)), (3, .int (iZ v))]) hx hb dX4_isReachedWithin_107 hl rfl (by decide) rfl (fun ls hl => ?_)
                  refine lv_goto (tgt := 32) hx hb dX4_isReachedWithin_110 (by decide) ?_
                  exact ih32 (x := x2) (y := (y + 1)) (S1 := S2) (h1 := by omega) (h2 := by exact h5) (h3 := by rw [h6]; exact zB_iff ⟨fun q => mEx_s (by omega) q (by rw [yV_lanes]; omega), fun q => mEx_un (by rw [yV_lanes]; omega) q⟩) (h4 := by omega) (hW := hW) (hk32 := by omega) (hI := hI) (hl := lv_sub hl [0, 2, 3, 4, 5, 6, 7] rfl)
                · skip
                  refine lv_iload hx hb dX4_isReachedWithin_58 (lv_at hl 2 rfl) ?_
                  refine z_if_ne (tgt := 107) hx hb dX4_isReachedWithin_60 (by decide) (by omega) (fun c12 => ?_) (fun c12 => ?_)
                  · skip
                    refine z_iinc (k := 1) (lv' := [(6, .int (iZ (y + 1))), (7, .int (iZ w)), (5, .int (iZ x2)), (4, .int (iZ (yBefore S lh t))), (0, .ref (am 1 0)), (1, .ref (am 5 lh)), (2, .ref (am 8 t)), (3, .int (iZ v))]) hx hb dX4_isReachedWithin_107 hl rfl (by decide) rfl (fun ls hl => ?_)
                    refine lv_goto (tgt := 32) hx hb dX4_isReachedWithin_110 (by decide) ?_
                    exact ih32 (x := x2) (y := (y + 1)) (S1 := S2) (h1 := by omega) (h2 := by exact h5) (h3 := by rw [h6] at c12 ⊢; have q := zB_1 c12; rw [zB_t q, zB_t (mEx_s (by omega) q (by rw [yV_lanes]; omega))]) (h4 := by omega) (hW := hW) (hk32 := by omega) (hI := hI) (hl := lv_sub hl [0, 2, 3, 4, 5, 6, 7] rfl)
                  · skip
                    have hIv2 := hIv.eq h5
                    have hh2 : S2 8 t 7 = (lh : Int) := (h5.1 8 t 7 (by decide)).trans hh
                    have h02 : ¬ yBefore S2 lh t = 0 := by rw [h5.before]; exact hah0
                    have hcn2 := hW.cn
                    refine lv_aload_n hx hb dX4_isReachedWithin_63 rfl (lv_at hl 4 rfl) ?_
                    refine lv_iload hx hb dX4_isReachedWithin_64 (lv_at hl 1 rfl) ?_
                    refine lv_iload hx hb dX4_isReachedWithin_66 (lv_at hl 0 rfl) ?_
                    refine zc_i (zrV (As := [.int (iZ y), .int (iZ w)]) (rest := []) (κ := 1) (i := 0) ⟨hx, hb, hml, hown, hts⟩ (c_X3_allowMove l D cA n am S2 H.size y w hW (by omega) (by omega)) (cwV 2 hts gX4_isReachedWithin_X3_allowMove rfl rfl rfl (by decide +kernel) ⟨Nat.le_of_ble_eq_true rfl, Nat.le_of_ble_eq_true rfl⟩) hK hI hW.1.2.1 rfl rfl rfl hl.1 rfl (Nat.le_of_ble_eq_true rfl) dX4_isReachedWithin_68 ⟨Nat.le_of_ble_eq_true rfl, Nat.le_of_ble_eq_true rfl⟩) hI (fun z13 u9 H locs hz14 hp15 hI hfr => ?_)
                    clear hfr
                    obtain ⟨rfl, rfl⟩ := hp15
                    refine z_if_eq (tgt := 101) hx hb dX4_isReachedWithin_71 (by decide) (by omega) (fun c16 => ?_) (fun c16 => ?_)
                    · skip
                      have c16 := zB_0 c16
                      refine z_iinc (k := 0) (lv' := [(7, .int (iZ (w + 1))), (6, .int (iZ y)), (5, .int (iZ x2)), (4, .int (iZ (yBefore S lh t))), (0, .ref (am 1 0)), (1, .ref (am 5 lh)), (2, .ref (am 8 t)), (3, .int (iZ v))]) hx hb dX4_isReachedWithin_101 hl rfl (by decide) rfl (fun ls hl => ?_)
                      refine lv_goto (tgt := 49) hx hb dX4_isReachedWithin_104 (by decide) ?_
                      exact ih49 (x2 := x2) (w := (w + 1)) (S2 := S2) (h1b := by omega) (h5 := by exact h5) (h6 := by have q := zB_0 (by rw [← h6]; exact c12); rw [h6, zB_f q, zB_f (fun z => yT_f hIv h5 hh (by omega) (by omega) hah0 c16 ((mEx2_s q (by omega)).mp z))]) (h7 := by omega) (hW := hW) (hk49 := by omega) (hI := hI) (hl := lv_sub hl [0, 1, 2, 3, 4, 5, 6, 7] rfl)
                    · skip
                      have c16 := zB_1 c16
                      refine lv_aload_n hx hb dX4_isReachedWithin_74 rfl (lv_at hl 4 rfl) ?_
                      refine lv_iload hx hb dX4_isReachedWithin_75 (lv_at hl 1 rfl) ?_
                      refine lv_iload hx hb dX4_isReachedWithin_77 (lv_at hl 0 rfl) ?_
                      refine zc_v (zrV (As := [.int (iZ y), .int (iZ w)]) (rest := []) (κ := 1) (i := 0) ⟨hx, hb, hml, hown, hts⟩ (c_X3_moveNearest l D cA n am S2 H.size y w hW (by omega) (by omega)) (cwV 2 hts gX4_isReachedWithin_X3_moveNearest rfl rfl rfl (by decide +kernel) ⟨Nat.le_of_ble_eq_true rfl, Nat.le_of_ble_eq_true rfl⟩) hK hI hW.1.2.1 rfl rfl rfl hl.1 rfl (Nat.le_of_ble_eq_true rfl) dX4_isReachedWithin_79 ⟨Nat.le_of_ble_eq_true rfl, Nat.le_of_ble_eq_true rfl⟩) hI (fun u9 H locs hp17 hI hfr => ?_)
                      clear hfr
                      obtain rfl := hp17
                      obtain ⟨S18, eS18⟩ : ∃ z, z = yMove S2 y w := ⟨_, rfl⟩
                      rw [← eS18] at hI
                      have hW : cW n S18 := by rw [eS18]; exact yMove_W hW
                      obtain ⟨hIv3, hh3, -⟩ := hIv2.mv hh2 (a := y) (b := w) (by omega) (by omega) h02 c16
                      rw [← eS18] at hIv3 hh3
                      refine lv_aload_n hx hb dX4_isReachedWithin_82 rfl (lv_at hl 4 rfl) ?_
                      refine lv_aload_n hx hb dX4_isReachedWithin_83 rfl (lv_at hl 5 rfl) ?_
                      refine lv_aload_n hx hb dX4_isReachedWithin_84 rfl (lv_at hl 6 rfl) ?_
                      refine lv_iload_n hx hb dX4_isReachedWithin_85 rfl (lv_at hl 7 rfl) ?_
                      refine z_iconst hx hb dX4_isReachedWithin_86 ?_
                      refine z_isub hx hb dX4_isReachedWithin_87 ?_
                      refine zc_i (zrS (As := [.ref (am 1 0), .ref (am 5 lh), .ref (am 8 t), .int (iZ (v - 1))]) (rest := []) ⟨hx, hb, hml, hown, hts⟩ (c_X4_isReachedWithin_1 l D cA n am S18 H.size lh t (v - 1) Z hW hl0 ht hIv3 hh3 (by omega)) (va_cwS 4 hts gX4_isReachedWithin_X4_isReachedWithin rfl rfl rfl (by decide +kernel) ⟨Nat.le_of_ble_eq_true rfl, Nat.le_of_ble_eq_true rfl⟩) hK hI rfl hl.1 rfl (Nat.le_of_ble_eq_true rfl) dX4_isReachedWithin_88 ⟨Nat.le_of_ble_eq_true rfl, Nat.le_of_ble_eq_true rfl⟩) hI (fun z19 u9 H locs hz20 hp21 hI hfr => ?_)
                      clear hfr
                      obtain ⟨S22, rfl, hS22, rfl⟩ := hp21
                      have hW : cW n S22 := hS22.W hW
                      refine lv_istore (lv' := [(5, .int (iZ (zB (mRch 1 (yV n S18 Z) (t : Int))))), (7, .int (iZ w)), (6, .int (iZ y)), (4, .int (iZ (yBefore S lh t))), (0, .ref (am 1 0)), (1, .ref (am 5 lh)), (2, .ref (am 8 t)), (3, .int (iZ v))]) hx hb dX4_isReachedWithin_91 hl (by decide) rfl (fun ls hl => ?_)
                      refine lv_aload_n hx hb dX4_isReachedWithin_93 rfl (lv_at hl 4 rfl) ?_
                      refine lv_iload hx hb dX4_isReachedWithin_94 (lv_at hl 1 rfl) ?_
                      refine lv_iload hx hb dX4_isReachedWithin_96 (lv_at hl 2 rfl) ?_
                      refine zc_v (zrV (As := [.int (iZ w), .int (iZ y)]) (rest := []) (κ := 1) (i := 0) ⟨hx, hb, hml, hown, hts⟩ (c_X3_moveNearest l D cA n am S22 H.size w y hW (by omega) (by omega)) (cwV 2 hts gX4_isReachedWithin_X3_moveNearest rfl rfl rfl (by decide +kernel) ⟨Nat.le_of_ble_eq_true rfl, Nat.le_of_ble_eq_true rfl⟩) hK hI hW.1.2.1 rfl rfl rfl hl.1 rfl (Nat.le_of_ble_eq_true rfl) dX4_isReachedWithin_98 ⟨Nat.le_of_ble_eq_true rfl, Nat.le_of_ble_eq_true rfl⟩) hI (fun u9 H locs hp23 hI hfr => ?_)
                      clear hfr
                      obtain rfl := hp23
                      obtain ⟨S24, eS24⟩ : ∃ z, z = yMove S22 w y := ⟨_, rfl⟩
                      rw [← eS24] at hI
                      have hW : cW n S24 := by rw [eS24]; exact yMove_W hW
                      refine z_iinc (k := 1) (lv' := [(7, .int (iZ (w + 1))), (5, .int (iZ (zB (mRch 1 (yV n S18 Z) (t : Int))))), (6, .int (iZ y)), (4, .int (iZ (yBefore S lh t))), (0, .ref (am 1 0)), (1, .ref (am 5 lh)), (2, .ref (am 8 t)), (3, .int (iZ v))]) hx hb dX4_isReachedWithin_101 hl rfl (by decide) rfl (fun ls hl => ?_)
                      refine lv_goto (tgt := 49) hx hb dX4_isReachedWithin_104 (by decide) ?_
                      exact ih49 (x2 := zB (mRch 1 (yV n S18 Z) (t : Int))) (w := (w + 1)) (S2 := S24) (h1b := by omega) (h5 := by rw [eS24]; exact h5.trans (yBack hIv2.1 hIv2.2.2.1 (by omega) (by omega) c16 (by rw [← eS18]; exact hS22))) (h6 := by have q := zB_0 (by rw [← h6]; exact c12); rw [eS18, zB_iff (yT_t hIv h5 hh (by omega) (by omega) hah0 c16), zB_iff (mEx2_s q (by omega))]) (h7 := by exact zB_R _) (hW := hW) (hk49 := by omega) (hI := hI) (hl := lv_sub hl [0, 2, 1, 3, 4, 5, 6, 7] rfl)
      · skip
        refine z_iconst hx hb dX4_isReachedWithin_24 ?_
        exact (ze_i (u' := (n, am, S)) (z := 0) hx hb hr (iZ_narz (by omega) (by omega)).1 hI (by omega) ⟨S, rfl, cEq.rfl' n S, (zB_f (fun q => by have := yR_le hIv hh q; omega)).symm⟩ (Nat.le_of_ble_eq_true rfl) (Nat.le_of_ble_eq_true rfl) dX4_isReachedWithin_25 hlocks)
  · skip
    refine z_iconst hx hb dX4_isReachedWithin_12 ?_
    exact (ze_i (u' := (n, am, S)) (z := 1) hx hb hr (iZ_narz (by omega) (by omega)).1 hI (by omega) ⟨S, rfl, cEq.rfl' n S, (zB_t (yR_0 hIv hh c4)).symm⟩ (Nat.le_of_ble_eq_true rfl) (Nat.le_of_ble_eq_true rfl) dX4_isReachedWithin_13 hlocks)
set_option maxHeartbeats 4000000 in
set_option maxRecDepth 100000 in
theorem c_X4_isReachedWithin_3 (l : Launch) (D : va_G) (cA : Nat → ClassId) (n : Nat → Nat) (am : ts_Am) (S : ts_St) (sz : Nat) (lh t : Nat) (v : Int) (Z : ts_St) (hW : cW n S) (hl0 : lh < n 5) (ht : t < n 8) (hIv : cIv n S Z t) (hh : S 8 t 7 = (lh : Int)) (hv : v = 3) : Met l yX4_isReachedWithin wsX4_isReachedWithin ({ frames := 5, cells := 0, slots := 0, locals := 121 } : Room) (va_Pc [.ref (am 1 0), .ref (am 5 lh), .ref (am 8 t), .int (iZ v)] (zP TX D cA (n, am, S) sz)) (zQi TX D cA (n, am, S) sz (fun z u => ∃ S9, u = (n, am, S9) ∧ cEq n S S9 ∧ z = zB (mRch 3 (yV n S Z) (t : Int)))) 0 0 (ts_A (n, am, S) sz) := by
  refine zM_of (by decide) rfl (Nat.le_of_ble_eq_true rfl) ?_
  intro p e s m below meth c hx hb hr hts hown hlocks hml hname hK hsz H locs hI ls hl
  subst hsz
  have hown : s.vm.findClass RX4 = some m.cls := hown
  have hl : lv_has ls 8 [(0, .ref (am 1 0)), (1, .ref (am 5 lh)), (2, .ref (am 8 t)), (3, .int (iZ v))] := hl
  have f55 := hts (.fieldLink RX4 55 "DockyardSlots$LaneRow" "count" "I") (by decide +kernel)
  have LX3 : ∀ w ∈ wsX30, w.before [.ref (am 1 0), .ref (am 5 lh), .ref (am 8 t), .int (iZ v)].toArray s = true := fun w h => hts w (List.mem_cons_of_mem _ (List.mem_append_left _ (List.mem_append_left _ (List.mem_append_right _ h))))
  have hcn := hW.cn
  have hlim := hW.lim
  have hbR := hIv.bR hh
  refine lv_aload_n hx hb dX4_isReachedWithin_0 rfl (lv_at hl 1 rfl) ?_
  refine lv_aload_n hx hb dX4_isReachedWithin_1 rfl (lv_at hl 2 rfl) ?_
  refine zc_i (zrV (As := [.ref (am 8 t)]) (rest := []) (κ := 5) (i := lh) ⟨hx, hb, hml, hown, hts⟩ (c_X2_countBefore l D cA n am S H.size lh t hl0 ht) (cwV 1 hts gX4_isReachedWithin_X2_countBefore rfl rfl rfl (by decide +kernel) ⟨Nat.le_of_ble_eq_true rfl, Nat.le_of_ble_eq_true rfl⟩) hK hI hl0 rfl rfl rfl hl.1 rfl (Nat.le_of_ble_eq_true rfl) dX4_isReachedWithin_2 ⟨Nat.le_of_ble_eq_true rfl, Nat.le_of_ble_eq_true rfl⟩) hI (fun z1 u9 H locs hz2 hp3 hI hfr => ?_)
  clear hfr
  obtain ⟨rfl, rfl⟩ := hp3
  refine lv_istore (lv' := [(4, .int (iZ (yBefore S lh t))), (0, .ref (am 1 0)), (1, .ref (am 5 lh)), (2, .ref (am 8 t)), (3, .int (iZ v))]) hx hb dX4_isReachedWithin_5 hl (by decide) rfl (fun ls hl => ?_)
  refine lv_iload hx hb dX4_isReachedWithin_7 (lv_at hl 0 rfl) ?_
  refine z_if_ne (tgt := 14) hx hb dX4_isReachedWithin_9 (by decide) (by omega) (fun c4 => ?_) (fun c4 => ?_)
  · skip
    have hah0 := c4
    refine lv_iload_n hx hb dX4_isReachedWithin_14 rfl (lv_at hl 4 rfl) ?_
    refine z_if_le (tgt := 24) hx hb dX4_isReachedWithin_15 (by decide) (by omega) (fun c5 => ?_) (fun c5 => ?_)
    · skip
      refine z_iconst hx hb dX4_isReachedWithin_24 ?_
      exact (ze_i (u' := (n, am, S)) (z := 0) hx hb hr (iZ_narz (by omega) (by omega)).1 hI (by omega) ⟨S, rfl, cEq.rfl' n S, (zB_f (fun q => by have := yR_le hIv hh q; omega)).symm⟩ (Nat.le_of_ble_eq_true rfl) (Nat.le_of_ble_eq_true rfl) dX4_isReachedWithin_25 hlocks)
    · skip
      refine lv_iload hx hb dX4_isReachedWithin_18 (lv_at hl 0 rfl) ?_
      refine lv_iload_n hx hb dX4_isReachedWithin_20 rfl (lv_at hl 4 rfl) ?_
      refine z_icmp_le (tgt := 26) hx hb dX4_isReachedWithin_21 (by decide) (by omega) (by omega) (fun c6 => ?_) (fun c6 => ?_)
      · skip
        refine z_iconst hx hb dX4_isReachedWithin_26 ?_
        refine lv_istore (lv' := [(5, .int (iZ 0)), (4, .int (iZ (yBefore S lh t))), (0, .ref (am 1 0)), (1, .ref (am 5 lh)), (2, .ref (am 8 t)), (3, .int (iZ v))]) hx hb dX4_isReachedWithin_27 hl (by decide) rfl (fun ls hl => ?_)
        refine z_iconst hx hb dX4_isReachedWithin_29 ?_
        refine lv_istore (lv' := [(6, .int (iZ 0)), (5, .int (iZ 0)), (4, .int (iZ (yBefore S lh t))), (0, .ref (am 1 0)), (1, .ref (am 5 lh)), (2, .ref (am 8 t)), (3, .int (iZ v))]) hx hb dX4_isReachedWithin_30 hl (by decide) rfl (fun ls hl => ?_)
        obtain ⟨x, e_x⟩ : ∃ z : Int, z = 0 := ⟨_, rfl⟩
        obtain ⟨y, e_y⟩ : ∃ z : Int, z = 0 := ⟨_, rfl⟩
        replace hl : lv_has ls 8 [(6, .int (iZ y)), (5, .int (iZ x)), (4, .int (iZ (yBefore S lh t))), (0, .ref (am 1 0)), (1, .ref (am 5 lh)), (2, .ref (am 8 t)), (3, .int (iZ v))] := by rw [e_x, e_y]; exact hl
        obtain ⟨S1, e_S1⟩ : ∃ z, z = S := ⟨_, rfl⟩
        rw [← e_S1] at hI
        replace hW : cW n S1 := by rw [e_S1]; exact hW
        have h1 : 0 ≤ y ∧ y ≤ (n 5 : Int) := by omega
        have h2 : cEq n S S1 := by rw [e_S1]; exact cEq.rfl' n S
        have h3 : x = zB (mEx 2 (yV n S Z) (t : Int) y) := by rw [e_x, e_y]; exact (zB_f mEx_0).symm
        have h4 : 0 ≤ x ∧ x < 2 := by omega
        obtain ⟨k32, hk32⟩ : ∃ k : Nat, (n 5 : Int) - y < (k : Int) := ⟨((n 5 : Int) - y).toNat + 1, by omega⟩
        clear e_x e_y e_S1
        induction k32 generalizing x y S1 H locs ls with
        | zero => omega
        | succ k32 ih32 =>
          refine lv_iload hx hb dX4_isReachedWithin_32 (lv_at hl 0 rfl) ?_
          refine lv_aload_n hx hb dX4_isReachedWithin_34 rfl (lv_at hl 3 rfl) ?_
          refine zg_i (κ := 1) (i := 0) (k := 1) hx hb LX3 hown hK hI hW.1.2.1 rfl rfl (by decide) rfl f55 (fun _ h9 => h9) dX4_isReachedWithin_35 rfl (fun b7 => ?_)
          have hcn1 := hW.cn
          refine z_icmp_ge (tgt := 113) hx hb dX4_isReachedWithin_38 (by decide) (by omega) (by omega) (fun c8 => ?_) (fun c8 => ?_)
          · skip
            have hend : zB (mEx 2 (yV n S Z) (t : Int) y) = zB (mRch 3 (yV n S Z) (t : Int)) := zB_iff ⟨fun q => mRch_ex (by rw [hIv.ah hh]; exact hah0) (by rw [hIv.ah hh]; omega) q (by rw [yV_lanes]; omega), fun q => Classical.byContradiction fun z => mRch_nex (by rw [hIv.ah hh]; exact hah0) z (by rw [yV_lanes]; omega) q⟩
            refine lv_iload hx hb dX4_isReachedWithin_113 (lv_at hl 1 rfl) ?_
            exact (ze_i (u' := (n, am, S1)) (z := x) hx hb hr (iZ_narz (by omega) (by omega)).1 hI (by omega) ⟨S1, rfl, h2, by rw [h3]; exact hend⟩ (Nat.le_of_ble_eq_true rfl) (Nat.le_of_ble_eq_true rfl) dX4_isReachedWithin_115 hlocks)
          · skip
            refine lv_iload hx hb dX4_isReachedWithin_41 (lv_at hl 1 rfl) ?_
            refine z_if_ne (tgt := 113) hx hb dX4_isReachedWithin_43 (by decide) (by omega) (fun c9 => ?_) (fun c9 => ?_)
            · skip
              have hend : zB (mEx 2 (yV n S Z) (t : Int) y) = zB (mRch 3 (yV n S Z) (t : Int)) := by rw [h3] at c9; rw [zB_t (zB_1 c9), zB_t (mRch_ex (by rw [hIv.ah hh]; exact hah0) (by rw [hIv.ah hh]; omega) (zB_1 c9) (by rw [yV_lanes]; omega))]
              refine lv_iload hx hb dX4_isReachedWithin_113 (lv_at hl 1 rfl) ?_
              exact (ze_i (u' := (n, am, S1)) (z := x) hx hb hr (iZ_narz (by omega) (by omega)).1 hI (by omega) ⟨S1, rfl, h2, by rw [h3]; exact hend⟩ (Nat.le_of_ble_eq_true rfl) (Nat.le_of_ble_eq_true rfl) dX4_isReachedWithin_115 hlocks)
            · skip
              refine z_iconst hx hb dX4_isReachedWithin_46 ?_
              refine lv_istore (lv' := [(7, .int (iZ 0)), (6, .int (iZ y)), (5, .int (iZ x)), (4, .int (iZ (yBefore S lh t))), (0, .ref (am 1 0)), (1, .ref (am 5 lh)), (2, .ref (am 8 t)), (3, .int (iZ v))]) hx hb dX4_isReachedWithin_47 hl (by decide) rfl (fun ls hl => ?_)
              obtain ⟨x2, e_x2⟩ : ∃ z : Int, z = x := ⟨_, rfl⟩
              obtain ⟨w, e_w⟩ : ∃ z : Int, z = 0 := ⟨_, rfl⟩
              replace hl : lv_has ls 8 [(7, .int (iZ w)), (6, .int (iZ y)), (5, .int (iZ x2)), (4, .int (iZ (yBefore S lh t))), (0, .ref (am 1 0)), (1, .ref (am 5 lh)), (2, .ref (am 8 t)), (3, .int (iZ v))] := by rw [e_x2, e_w]; exact hl
              obtain ⟨S2, e_S2⟩ : ∃ z, z = S1 := ⟨_, rfl⟩
              rw [← e_S2] at hI
              replace hW : cW n S2 := by rw [e_S2]; exact hW
              have h1b : 0 ≤ w ∧ w ≤ (n 5 : Int) := by omega
              have h5 : cEq n S S2 := by rw [e_S2]; exact h2
              have h6 : x2 = zB (mEx2 2 (yV n S Z) (t : Int) y w) := by rw [e_x2, e_w, h3]; exact (zB_iff mEx2_0).symm
              have h7 : 0 ≤ x2 ∧ x2 < 2 := by omega
              obtain ⟨k49, hk49⟩ : ∃ k : Nat, (n 5 : Int) - w < (k : Int) := ⟨((n 5 : Int) - w).toNat + 1, by omega⟩
              clear e_x2 e_w e_S2
              induction k49 generalizing x2 w S2 H locs ls with
              | zero => omega
              | succ k49 ih49 =>
                refine lv_iload hx hb dX4_isReachedWithin_49 (lv_at hl 0 rfl) ?_
                refine lv_aload_n hx hb dX4_isReachedWithin_51 rfl (lv_at hl 4 rfl) ?_
                refine zg_i (κ := 1) (i := 0) (k := 1) hx hb LX3 hown hK hI hW.1.2.1 rfl rfl (by decide) rfl f55 (fun _ h9 => h9) dX4_isReachedWithin_52 rfl (fun b10 => ?_)
                have hcn2 := hW.cn
                refine z_icmp_ge (tgt := 107) hx hb dX4_isReachedWithin_55 (by decide) (by omega) (by omega) (fun c11 => ?_) (fun c11 => ?_)
                · skip
                  refine z_iinc (k := 1) (lv' := [(6, .int (iZ (y + 1))), (7, .int (iZ w)), (5, .int (iZ x2)), (4, .int (iZ (yBefore S lh t))), (0, .ref (am 1 0)), (1, .ref (am 5 lh)), (2, .ref (am 8 t)), (3, .int (iZ v))]) hx hb dX4_isReachedWithin_107 hl rfl (by decide) rfl (fun ls hl => ?_)
                  refine lv_goto (tgt := 32) hx hb dX4_isReachedWithin_110 (by decide) ?_
                  exact ih32 (x := x2) (y := (y + 1)) (S1 := S2) (h1 := by omega) (h2 := by exact h5) (h3 := by rw [h6]; exact zB_iff ⟨fun q => mEx_s (by omega) q (by rw [yV_lanes]; omega), fun q => mEx_un (by rw [yV_lanes]; omega) q⟩) (h4 := by omega) (hW := hW) (hk32 := by omega) (hI := hI) (hl := lv_sub hl [0, 2, 3, 4, 5, 6, 7] rfl)
                · skip
                  refine lv_iload hx hb dX4_isReachedWithin_58 (lv_at hl 2 rfl) ?_
                  refine z_if_ne (tgt := 107) hx hb dX4_isReachedWithin_60 (by decide) (by omega) (fun c12 => ?_) (fun c12 => ?_)
                  · skip
                    refine z_iinc (k := 1) (lv' := [(6, .int (iZ (y + 1))), (7, .int (iZ w)), (5, .int (iZ x2)), (4, .int (iZ (yBefore S lh t))), (0, .ref (am 1 0)), (1, .ref (am 5 lh)), (2, .ref (am 8 t)), (3, .int (iZ v))]) hx hb dX4_isReachedWithin_107 hl rfl (by decide) rfl (fun ls hl => ?_)
                    refine lv_goto (tgt := 32) hx hb dX4_isReachedWithin_110 (by decide) ?_
                    exact ih32 (x := x2) (y := (y + 1)) (S1 := S2) (h1 := by omega) (h2 := by exact h5) (h3 := by rw [h6] at c12 ⊢; have q := zB_1 c12; rw [zB_t q, zB_t (mEx_s (by omega) q (by rw [yV_lanes]; omega))]) (h4 := by omega) (hW := hW) (hk32 := by omega) (hI := hI) (hl := lv_sub hl [0, 2, 3, 4, 5, 6, 7] rfl)
                  · skip
                    have hIv2 := hIv.eq h5
                    have hh2 : S2 8 t 7 = (lh : Int) := (h5.1 8 t 7 (by decide)).trans hh
                    have h02 : ¬ yBefore S2 lh t = 0 := by rw [h5.before]; exact hah0
                    have hcn2 := hW.cn
                    refine lv_aload_n hx hb dX4_isReachedWithin_63 rfl (lv_at hl 4 rfl) ?_
                    refine lv_iload hx hb dX4_isReachedWithin_64 (lv_at hl 1 rfl) ?_
                    refine lv_iload hx hb dX4_isReachedWithin_66 (lv_at hl 0 rfl) ?_
                    refine zc_i (zrV (As := [.int (iZ y), .int (iZ w)]) (rest := []) (κ := 1) (i := 0) ⟨hx, hb, hml, hown, hts⟩ (c_X3_allowMove l D cA n am S2 H.size y w hW (by omega) (by omega)) (cwV 2 hts gX4_isReachedWithin_X3_allowMove rfl rfl rfl (by decide +kernel) ⟨Nat.le_of_ble_eq_true rfl, Nat.le_of_ble_eq_true rfl⟩) hK hI hW.1.2.1 rfl rfl rfl hl.1 rfl (Nat.le_of_ble_eq_true rfl) dX4_isReachedWithin_68 ⟨Nat.le_of_ble_eq_true rfl, Nat.le_of_ble_eq_true rfl⟩) hI (fun z13 u9 H locs hz14 hp15 hI hfr => ?_)
                    clear hfr
                    obtain ⟨rfl, rfl⟩ := hp15
                    refine z_if_eq (tgt := 101) hx hb dX4_isReachedWithin_71 (by decide) (by omega) (fun c16 => ?_) (fun c16 => ?_)
                    · skip
                      have c16 := zB_0 c16
                      refine z_iinc (k := 0) (lv' := [(7, .int (iZ (w + 1))), (6, .int (iZ y)), (5, .int (iZ x2)), (4, .int (iZ (yBefore S lh t))), (0, .ref (am 1 0)), (1, .ref (am 5 lh)), (2, .ref (am 8 t)), (3, .int (iZ v))]) hx hb dX4_isReachedWithin_101 hl rfl (by decide) rfl (fun ls hl => ?_)
                      refine lv_goto (tgt := 49) hx hb dX4_isReachedWithin_104 (by decide) ?_
                      exact ih49 (x2 := x2) (w := (w + 1)) (S2 := S2) (h1b := by omega) (h5 := by exact h5) (h6 := by have q := zB_0 (by rw [← h6]; exact c12); rw [h6, zB_f q, zB_f (fun z => yT_f hIv h5 hh (by omega) (by omega) hah0 c16 ((mEx2_s q (by omega)).mp z))]) (h7 := by omega) (hW := hW) (hk49 := by omega) (hI := hI) (hl := lv_sub hl [0, 1, 2, 3, 4, 5, 6, 7] rfl)
                    · skip
                      have c16 := zB_1 c16
                      refine lv_aload_n hx hb dX4_isReachedWithin_74 rfl (lv_at hl 4 rfl) ?_
                      refine lv_iload hx hb dX4_isReachedWithin_75 (lv_at hl 1 rfl) ?_
                      refine lv_iload hx hb dX4_isReachedWithin_77 (lv_at hl 0 rfl) ?_
                      refine zc_v (zrV (As := [.int (iZ y), .int (iZ w)]) (rest := []) (κ := 1) (i := 0) ⟨hx, hb, hml, hown, hts⟩ (c_X3_moveNearest l D cA n am S2 H.size y w hW (by omega) (by omega)) (cwV 2 hts gX4_isReachedWithin_X3_moveNearest rfl rfl rfl (by decide +kernel) ⟨Nat.le_of_ble_eq_true rfl, Nat.le_of_ble_eq_true rfl⟩) hK hI hW.1.2.1 rfl rfl rfl hl.1 rfl (Nat.le_of_ble_eq_true rfl) dX4_isReachedWithin_79 ⟨Nat.le_of_ble_eq_true rfl, Nat.le_of_ble_eq_true rfl⟩) hI (fun u9 H locs hp17 hI hfr => ?_)
                      clear hfr
                      obtain rfl := hp17
                      obtain ⟨S18, eS18⟩ : ∃ z, z = yMove S2 y w := ⟨_, rfl⟩
                      rw [← eS18] at hI
                      have hW : cW n S18 := by rw [eS18]; exact yMove_W hW
                      obtain ⟨hIv3, hh3, -⟩ := hIv2.mv hh2 (a := y) (b := w) (by omega) (by omega) h02 c16
                      rw [← eS18] at hIv3 hh3
                      refine lv_aload_n hx hb dX4_isReachedWithin_82 rfl (lv_at hl 4 rfl) ?_
                      refine lv_aload_n hx hb dX4_isReachedWithin_83 rfl (lv_at hl 5 rfl) ?_
                      refine lv_aload_n hx hb dX4_isReachedWithin_84 rfl (lv_at hl 6 rfl) ?_
                      refine lv_iload_n hx hb dX4_isReachedWithin_85 rfl (lv_at hl 7 rfl) ?_
                      refine z_iconst hx hb dX4_isReachedWithin_86 ?_
                      refine z_isub hx hb dX4_isReachedWithin_87 ?_
                      refine zc_i (zrS (As := [.ref (am 1 0), .ref (am 5 lh), .ref (am 8 t), .int (iZ (v - 1))]) (rest := []) ⟨hx, hb, hml, hown, hts⟩ (c_X4_isReachedWithin_2 l D cA n am S18 H.size lh t (v - 1) Z hW hl0 ht hIv3 hh3 (by omega)) (va_cwS 4 hts gX4_isReachedWithin_X4_isReachedWithin rfl rfl rfl (by decide +kernel) ⟨Nat.le_of_ble_eq_true rfl, Nat.le_of_ble_eq_true rfl⟩) hK hI rfl hl.1 rfl (Nat.le_of_ble_eq_true rfl) dX4_isReachedWithin_88 ⟨Nat.le_of_ble_eq_true rfl, Nat.le_of_ble_eq_true rfl⟩) hI (fun z19 u9 H locs hz20 hp21 hI hfr => ?_)
                      clear hfr
                      obtain ⟨S22, rfl, hS22, rfl⟩ := hp21
                      have hW : cW n S22 := hS22.W hW
                      refine lv_istore (lv' := [(5, .int (iZ (zB (mRch 2 (yV n S18 Z) (t : Int))))), (7, .int (iZ w)), (6, .int (iZ y)), (4, .int (iZ (yBefore S lh t))), (0, .ref (am 1 0)), (1, .ref (am 5 lh)), (2, .ref (am 8 t)), (3, .int (iZ v))]) hx hb dX4_isReachedWithin_91 hl (by decide) rfl (fun ls hl => ?_)
                      refine lv_aload_n hx hb dX4_isReachedWithin_93 rfl (lv_at hl 4 rfl) ?_
                      refine lv_iload hx hb dX4_isReachedWithin_94 (lv_at hl 1 rfl) ?_
                      refine lv_iload hx hb dX4_isReachedWithin_96 (lv_at hl 2 rfl) ?_
                      refine zc_v (zrV (As := [.int (iZ w), .int (iZ y)]) (rest := []) (κ := 1) (i := 0) ⟨hx, hb, hml, hown, hts⟩ (c_X3_moveNearest l D cA n am S22 H.size w y hW (by omega) (by omega)) (cwV 2 hts gX4_isReachedWithin_X3_moveNearest rfl rfl rfl (by decide +kernel) ⟨Nat.le_of_ble_eq_true rfl, Nat.le_of_ble_eq_true rfl⟩) hK hI hW.1.2.1 rfl rfl rfl hl.1 rfl (Nat.le_of_ble_eq_true rfl) dX4_isReachedWithin_98 ⟨Nat.le_of_ble_eq_true rfl, Nat.le_of_ble_eq_true rfl⟩) hI (fun u9 H locs hp23 hI hfr => ?_)
                      clear hfr
                      obtain rfl := hp23
                      obtain ⟨S24, eS24⟩ : ∃ z, z = yMove S22 w y := ⟨_, rfl⟩
                      rw [← eS24] at hI
                      have hW : cW n S24 := by rw [eS24]; exact yMove_W hW
                      refine z_iinc (k := 1) (lv' := [(7, .int (iZ (w + 1))), (5, .int (iZ (zB (mRch 2 (yV n S18 Z) (t : Int))))), (6, .int (iZ y)), (4, .int (iZ (yBefore S lh t))), (0, .ref (am 1 0)), (1, .ref (am 5 lh)), (2, .ref (am 8 t)), (3, .int (iZ v))]) hx hb dX4_isReachedWithin_101 hl rfl (by decide) rfl (fun ls hl => ?_)
                      refine lv_goto (tgt := 49) hx hb dX4_isReachedWithin_104 (by decide) ?_
                      exact ih49 (x2 := zB (mRch 2 (yV n S18 Z) (t : Int))) (w := (w + 1)) (S2 := S24) (h1b := by omega) (h5 := by rw [eS24]; exact h5.trans (yBack hIv2.1 hIv2.2.2.1 (by omega) (by omega) c16 (by rw [← eS18]; exact hS22))) (h6 := by have q := zB_0 (by rw [← h6]; exact c12); rw [eS18, zB_iff (yT_t hIv h5 hh (by omega) (by omega) hah0 c16), zB_iff (mEx2_s q (by omega))]) (h7 := by exact zB_R _) (hW := hW) (hk49 := by omega) (hI := hI) (hl := lv_sub hl [0, 2, 1, 3, 4, 5, 6, 7] rfl)
      · skip
        refine z_iconst hx hb dX4_isReachedWithin_24 ?_
        exact (ze_i (u' := (n, am, S)) (z := 0) hx hb hr (iZ_narz (by omega) (by omega)).1 hI (by omega) ⟨S, rfl, cEq.rfl' n S, (zB_f (fun q => by have := yR_le hIv hh q; omega)).symm⟩ (Nat.le_of_ble_eq_true rfl) (Nat.le_of_ble_eq_true rfl) dX4_isReachedWithin_25 hlocks)
  · skip
    refine z_iconst hx hb dX4_isReachedWithin_12 ?_
    exact (ze_i (u' := (n, am, S)) (z := 1) hx hb hr (iZ_narz (by omega) (by omega)).1 hI (by omega) ⟨S, rfl, cEq.rfl' n S, (zB_t (yR_0 hIv hh c4)).symm⟩ (Nat.le_of_ble_eq_true rfl) (Nat.le_of_ble_eq_true rfl) dX4_isReachedWithin_13 hlocks)
set_option maxHeartbeats 4000000 in
set_option maxRecDepth 100000 in
theorem c_X4_isReachedWithin_4 (l : Launch) (D : va_G) (cA : Nat → ClassId) (n : Nat → Nat) (am : ts_Am) (S : ts_St) (sz : Nat) (lh t : Nat) (v : Int) (Z : ts_St) (hW : cW n S) (hl0 : lh < n 5) (ht : t < n 8) (hIv : cIv n S Z t) (hh : S 8 t 7 = (lh : Int)) (hv : v = 4) : Met l yX4_isReachedWithin wsX4_isReachedWithin ({ frames := 6, cells := 0, slots := 0, locals := 148 } : Room) (va_Pc [.ref (am 1 0), .ref (am 5 lh), .ref (am 8 t), .int (iZ v)] (zP TX D cA (n, am, S) sz)) (zQi TX D cA (n, am, S) sz (fun z u => ∃ S9, u = (n, am, S9) ∧ cEq n S S9 ∧ z = zB (mRch 4 (yV n S Z) (t : Int)))) 0 0 (ts_A (n, am, S) sz) := by
  refine zM_of (by decide) rfl (Nat.le_of_ble_eq_true rfl) ?_
  intro p e s m below meth c hx hb hr hts hown hlocks hml hname hK hsz H locs hI ls hl
  subst hsz
  have hown : s.vm.findClass RX4 = some m.cls := hown
  have hl : lv_has ls 8 [(0, .ref (am 1 0)), (1, .ref (am 5 lh)), (2, .ref (am 8 t)), (3, .int (iZ v))] := hl
  have f55 := hts (.fieldLink RX4 55 "DockyardSlots$LaneRow" "count" "I") (by decide +kernel)
  have LX3 : ∀ w ∈ wsX30, w.before [.ref (am 1 0), .ref (am 5 lh), .ref (am 8 t), .int (iZ v)].toArray s = true := fun w h => hts w (List.mem_cons_of_mem _ (List.mem_append_left _ (List.mem_append_left _ (List.mem_append_right _ h))))
  have hcn := hW.cn
  have hlim := hW.lim
  have hbR := hIv.bR hh
  refine lv_aload_n hx hb dX4_isReachedWithin_0 rfl (lv_at hl 1 rfl) ?_
  refine lv_aload_n hx hb dX4_isReachedWithin_1 rfl (lv_at hl 2 rfl) ?_
  refine zc_i (zrV (As := [.ref (am 8 t)]) (rest := []) (κ := 5) (i := lh) ⟨hx, hb, hml, hown, hts⟩ (c_X2_countBefore l D cA n am S H.size lh t hl0 ht) (cwV 1 hts gX4_isReachedWithin_X2_countBefore rfl rfl rfl (by decide +kernel) ⟨Nat.le_of_ble_eq_true rfl, Nat.le_of_ble_eq_true rfl⟩) hK hI hl0 rfl rfl rfl hl.1 rfl (Nat.le_of_ble_eq_true rfl) dX4_isReachedWithin_2 ⟨Nat.le_of_ble_eq_true rfl, Nat.le_of_ble_eq_true rfl⟩) hI (fun z1 u9 H locs hz2 hp3 hI hfr => ?_)
  clear hfr
  obtain ⟨rfl, rfl⟩ := hp3
  refine lv_istore (lv' := [(4, .int (iZ (yBefore S lh t))), (0, .ref (am 1 0)), (1, .ref (am 5 lh)), (2, .ref (am 8 t)), (3, .int (iZ v))]) hx hb dX4_isReachedWithin_5 hl (by decide) rfl (fun ls hl => ?_)
  refine lv_iload hx hb dX4_isReachedWithin_7 (lv_at hl 0 rfl) ?_
  refine z_if_ne (tgt := 14) hx hb dX4_isReachedWithin_9 (by decide) (by omega) (fun c4 => ?_) (fun c4 => ?_)
  · skip
    have hah0 := c4
    refine lv_iload_n hx hb dX4_isReachedWithin_14 rfl (lv_at hl 4 rfl) ?_
    refine z_if_le (tgt := 24) hx hb dX4_isReachedWithin_15 (by decide) (by omega) (fun c5 => ?_) (fun c5 => ?_)
    · skip
      refine z_iconst hx hb dX4_isReachedWithin_24 ?_
      exact (ze_i (u' := (n, am, S)) (z := 0) hx hb hr (iZ_narz (by omega) (by omega)).1 hI (by omega) ⟨S, rfl, cEq.rfl' n S, (zB_f (fun q => by have := yR_le hIv hh q; omega)).symm⟩ (Nat.le_of_ble_eq_true rfl) (Nat.le_of_ble_eq_true rfl) dX4_isReachedWithin_25 hlocks)
    · skip
      refine lv_iload hx hb dX4_isReachedWithin_18 (lv_at hl 0 rfl) ?_
      refine lv_iload_n hx hb dX4_isReachedWithin_20 rfl (lv_at hl 4 rfl) ?_
      refine z_icmp_le (tgt := 26) hx hb dX4_isReachedWithin_21 (by decide) (by omega) (by omega) (fun c6 => ?_) (fun c6 => ?_)
      · skip
        refine z_iconst hx hb dX4_isReachedWithin_26 ?_
        refine lv_istore (lv' := [(5, .int (iZ 0)), (4, .int (iZ (yBefore S lh t))), (0, .ref (am 1 0)), (1, .ref (am 5 lh)), (2, .ref (am 8 t)), (3, .int (iZ v))]) hx hb dX4_isReachedWithin_27 hl (by decide) rfl (fun ls hl => ?_)
        refine z_iconst hx hb dX4_isReachedWithin_29 ?_
        refine lv_istore (lv' := [(6, .int (iZ 0)), (5, .int (iZ 0)), (4, .int (iZ (yBefore S lh t))), (0, .ref (am 1 0)), (1, .ref (am 5 lh)), (2, .ref (am 8 t)), (3, .int (iZ v))]) hx hb dX4_isReachedWithin_30 hl (by decide) rfl (fun ls hl => ?_)
        obtain ⟨x, e_x⟩ : ∃ z : Int, z = 0 := ⟨_, rfl⟩
        obtain ⟨y, e_y⟩ : ∃ z : Int, z = 0 := ⟨_, rfl⟩
        replace hl : lv_has ls 8 [(6, .int (iZ y)), (5, .int (iZ x)), (4, .int (iZ (yBefore S lh t))), (0, .ref (am 1 0)), (1, .ref (am 5 lh)), (2, .ref (am 8 t)), (3, .int (iZ v))] := by rw [e_x, e_y]; exact hl
        obtain ⟨S1, e_S1⟩ : ∃ z, z = S := ⟨_, rfl⟩
        rw [← e_S1] at hI
        replace hW : cW n S1 := by rw [e_S1]; exact hW
        have h1 : 0 ≤ y ∧ y ≤ (n 5 : Int) := by omega
        have h2 : cEq n S S1 := by rw [e_S1]; exact cEq.rfl' n S
        have h3 : x = zB (mEx 3 (yV n S Z) (t : Int) y) := by rw [e_x, e_y]; exact (zB_f mEx_0).symm
        have h4 : 0 ≤ x ∧ x < 2 := by omega
        obtain ⟨k32, hk32⟩ : ∃ k : Nat, (n 5 : Int) - y < (k : Int) := ⟨((n 5 : Int) - y).toNat + 1, by omega⟩
        clear e_x e_y e_S1
        induction k32 generalizing x y S1 H locs ls with
        | zero => omega
        | succ k32 ih32 =>
          refine lv_iload hx hb dX4_isReachedWithin_32 (lv_at hl 0 rfl) ?_
          refine lv_aload_n hx hb dX4_isReachedWithin_34 rfl (lv_at hl 3 rfl) ?_
          refine zg_i (κ := 1) (i := 0) (k := 1) hx hb LX3 hown hK hI hW.1.2.1 rfl rfl (by decide) rfl f55 (fun _ h9 => h9) dX4_isReachedWithin_35 rfl (fun b7 => ?_)
          have hcn1 := hW.cn
          refine z_icmp_ge (tgt := 113) hx hb dX4_isReachedWithin_38 (by decide) (by omega) (by omega) (fun c8 => ?_) (fun c8 => ?_)
          · skip
            have hend : zB (mEx 3 (yV n S Z) (t : Int) y) = zB (mRch 4 (yV n S Z) (t : Int)) := zB_iff ⟨fun q => mRch_ex (by rw [hIv.ah hh]; exact hah0) (by rw [hIv.ah hh]; omega) q (by rw [yV_lanes]; omega), fun q => Classical.byContradiction fun z => mRch_nex (by rw [hIv.ah hh]; exact hah0) z (by rw [yV_lanes]; omega) q⟩
            refine lv_iload hx hb dX4_isReachedWithin_113 (lv_at hl 1 rfl) ?_
            exact (ze_i (u' := (n, am, S1)) (z := x) hx hb hr (iZ_narz (by omega) (by omega)).1 hI (by omega) ⟨S1, rfl, h2, by rw [h3]; exact hend⟩ (Nat.le_of_ble_eq_true rfl) (Nat.le_of_ble_eq_true rfl) dX4_isReachedWithin_115 hlocks)
          · skip
            refine lv_iload hx hb dX4_isReachedWithin_41 (lv_at hl 1 rfl) ?_
            refine z_if_ne (tgt := 113) hx hb dX4_isReachedWithin_43 (by decide) (by omega) (fun c9 => ?_) (fun c9 => ?_)
            · skip
              have hend : zB (mEx 3 (yV n S Z) (t : Int) y) = zB (mRch 4 (yV n S Z) (t : Int)) := by rw [h3] at c9; rw [zB_t (zB_1 c9), zB_t (mRch_ex (by rw [hIv.ah hh]; exact hah0) (by rw [hIv.ah hh]; omega) (zB_1 c9) (by rw [yV_lanes]; omega))]
              refine lv_iload hx hb dX4_isReachedWithin_113 (lv_at hl 1 rfl) ?_
              exact (ze_i (u' := (n, am, S1)) (z := x) hx hb hr (iZ_narz (by omega) (by omega)).1 hI (by omega) ⟨S1, rfl, h2, by rw [h3]; exact hend⟩ (Nat.le_of_ble_eq_true rfl) (Nat.le_of_ble_eq_true rfl) dX4_isReachedWithin_115 hlocks)
            · skip
              refine z_iconst hx hb dX4_isReachedWithin_46 ?_
              refine lv_istore (lv' := [(7, .int (iZ 0)), (6, .int (iZ y)), (5, .int (iZ x)), (4, .int (iZ (yBefore S lh t))), (0, .ref (am 1 0)), (1, .ref (am 5 lh)), (2, .ref (am 8 t)), (3, .int (iZ v))]) hx hb dX4_isReachedWithin_47 hl (by decide) rfl (fun ls hl => ?_)
              obtain ⟨x2, e_x2⟩ : ∃ z : Int, z = x := ⟨_, rfl⟩
              obtain ⟨w, e_w⟩ : ∃ z : Int, z = 0 := ⟨_, rfl⟩
              replace hl : lv_has ls 8 [(7, .int (iZ w)), (6, .int (iZ y)), (5, .int (iZ x2)), (4, .int (iZ (yBefore S lh t))), (0, .ref (am 1 0)), (1, .ref (am 5 lh)), (2, .ref (am 8 t)), (3, .int (iZ v))] := by rw [e_x2, e_w]; exact hl
              obtain ⟨S2, e_S2⟩ : ∃ z, z = S1 := ⟨_, rfl⟩
              rw [← e_S2] at hI
              replace hW : cW n S2 := by rw [e_S2]; exact hW
              have h1b : 0 ≤ w ∧ w ≤ (n 5 : Int) := by omega
              have h5 : cEq n S S2 := by rw [e_S2]; exact h2
              have h6 : x2 = zB (mEx2 3 (yV n S Z) (t : Int) y w) := by rw [e_x2, e_w, h3]; exact (zB_iff mEx2_0).symm
              have h7 : 0 ≤ x2 ∧ x2 < 2 := by omega
              obtain ⟨k49, hk49⟩ : ∃ k : Nat, (n 5 : Int) - w < (k : Int) := ⟨((n 5 : Int) - w).toNat + 1, by omega⟩
              clear e_x2 e_w e_S2
              induction k49 generalizing x2 w S2 H locs ls with
              | zero => omega
              | succ k49 ih49 =>
                refine lv_iload hx hb dX4_isReachedWithin_49 (lv_at hl 0 rfl) ?_
                refine lv_aload_n hx hb dX4_isReachedWithin_51 rfl (lv_at hl 4 rfl) ?_
                refine zg_i (κ := 1) (i := 0) (k := 1) hx hb LX3 hown hK hI hW.1.2.1 rfl rfl (by decide) rfl f55 (fun _ h9 => h9) dX4_isReachedWithin_52 rfl (fun b10 => ?_)
                have hcn2 := hW.cn
                refine z_icmp_ge (tgt := 107) hx hb dX4_isReachedWithin_55 (by decide) (by omega) (by omega) (fun c11 => ?_) (fun c11 => ?_)
                · skip
                  refine z_iinc (k := 1) (lv' := [(6, .int (iZ (y + 1))), (7, .int (iZ w)), (5, .int (iZ x2)), (4, .int (iZ (yBefore S lh t))), (0, .ref (am 1 0)), (1, .ref (am 5 lh)), (2, .ref (am 8 t)), (3, .int (iZ v))]) hx hb dX4_isReachedWithin_107 hl rfl (by decide) rfl (fun ls hl => ?_)
                  refine lv_goto (tgt := 32) hx hb dX4_isReachedWithin_110 (by decide) ?_
                  exact ih32 (x := x2) (y := (y + 1)) (S1 := S2) (h1 := by omega) (h2 := by exact h5) (h3 := by rw [h6]; exact zB_iff ⟨fun q => mEx_s (by omega) q (by rw [yV_lanes]; omega), fun q => mEx_un (by rw [yV_lanes]; omega) q⟩) (h4 := by omega) (hW := hW) (hk32 := by omega) (hI := hI) (hl := lv_sub hl [0, 2, 3, 4, 5, 6, 7] rfl)
                · skip
                  refine lv_iload hx hb dX4_isReachedWithin_58 (lv_at hl 2 rfl) ?_
                  refine z_if_ne (tgt := 107) hx hb dX4_isReachedWithin_60 (by decide) (by omega) (fun c12 => ?_) (fun c12 => ?_)
                  · skip
                    refine z_iinc (k := 1) (lv' := [(6, .int (iZ (y + 1))), (7, .int (iZ w)), (5, .int (iZ x2)), (4, .int (iZ (yBefore S lh t))), (0, .ref (am 1 0)), (1, .ref (am 5 lh)), (2, .ref (am 8 t)), (3, .int (iZ v))]) hx hb dX4_isReachedWithin_107 hl rfl (by decide) rfl (fun ls hl => ?_)
                    refine lv_goto (tgt := 32) hx hb dX4_isReachedWithin_110 (by decide) ?_
                    exact ih32 (x := x2) (y := (y + 1)) (S1 := S2) (h1 := by omega) (h2 := by exact h5) (h3 := by rw [h6] at c12 ⊢; have q := zB_1 c12; rw [zB_t q, zB_t (mEx_s (by omega) q (by rw [yV_lanes]; omega))]) (h4 := by omega) (hW := hW) (hk32 := by omega) (hI := hI) (hl := lv_sub hl [0, 2, 3, 4, 5, 6, 7] rfl)
                  · skip
                    have hIv2 := hIv.eq h5
                    have hh2 : S2 8 t 7 = (lh : Int) := (h5.1 8 t 7 (by decide)).trans hh
                    have h02 : ¬ yBefore S2 lh t = 0 := by rw [h5.before]; exact hah0
                    have hcn2 := hW.cn
                    refine lv_aload_n hx hb dX4_isReachedWithin_63 rfl (lv_at hl 4 rfl) ?_
                    refine lv_iload hx hb dX4_isReachedWithin_64 (lv_at hl 1 rfl) ?_
                    refine lv_iload hx hb dX4_isReachedWithin_66 (lv_at hl 0 rfl) ?_
                    refine zc_i (zrV (As := [.int (iZ y), .int (iZ w)]) (rest := []) (κ := 1) (i := 0) ⟨hx, hb, hml, hown, hts⟩ (c_X3_allowMove l D cA n am S2 H.size y w hW (by omega) (by omega)) (cwV 2 hts gX4_isReachedWithin_X3_allowMove rfl rfl rfl (by decide +kernel) ⟨Nat.le_of_ble_eq_true rfl, Nat.le_of_ble_eq_true rfl⟩) hK hI hW.1.2.1 rfl rfl rfl hl.1 rfl (Nat.le_of_ble_eq_true rfl) dX4_isReachedWithin_68 ⟨Nat.le_of_ble_eq_true rfl, Nat.le_of_ble_eq_true rfl⟩) hI (fun z13 u9 H locs hz14 hp15 hI hfr => ?_)
                    clear hfr
                    obtain ⟨rfl, rfl⟩ := hp15
                    refine z_if_eq (tgt := 101) hx hb dX4_isReachedWithin_71 (by decide) (by omega) (fun c16 => ?_) (fun c16 => ?_)
                    · skip
                      have c16 := zB_0 c16
                      refine z_iinc (k := 0) (lv' := [(7, .int (iZ (w + 1))), (6, .int (iZ y)), (5, .int (iZ x2)), (4, .int (iZ (yBefore S lh t))), (0, .ref (am 1 0)), (1, .ref (am 5 lh)), (2, .ref (am 8 t)), (3, .int (iZ v))]) hx hb dX4_isReachedWithin_101 hl rfl (by decide) rfl (fun ls hl => ?_)
                      refine lv_goto (tgt := 49) hx hb dX4_isReachedWithin_104 (by decide) ?_
                      exact ih49 (x2 := x2) (w := (w + 1)) (S2 := S2) (h1b := by omega) (h5 := by exact h5) (h6 := by have q := zB_0 (by rw [← h6]; exact c12); rw [h6, zB_f q, zB_f (fun z => yT_f hIv h5 hh (by omega) (by omega) hah0 c16 ((mEx2_s q (by omega)).mp z))]) (h7 := by omega) (hW := hW) (hk49 := by omega) (hI := hI) (hl := lv_sub hl [0, 1, 2, 3, 4, 5, 6, 7] rfl)
                    · skip
                      have c16 := zB_1 c16
                      refine lv_aload_n hx hb dX4_isReachedWithin_74 rfl (lv_at hl 4 rfl) ?_
                      refine lv_iload hx hb dX4_isReachedWithin_75 (lv_at hl 1 rfl) ?_
                      refine lv_iload hx hb dX4_isReachedWithin_77 (lv_at hl 0 rfl) ?_
                      refine zc_v (zrV (As := [.int (iZ y), .int (iZ w)]) (rest := []) (κ := 1) (i := 0) ⟨hx, hb, hml, hown, hts⟩ (c_X3_moveNearest l D cA n am S2 H.size y w hW (by omega) (by omega)) (cwV 2 hts gX4_isReachedWithin_X3_moveNearest rfl rfl rfl (by decide +kernel) ⟨Nat.le_of_ble_eq_true rfl, Nat.le_of_ble_eq_true rfl⟩) hK hI hW.1.2.1 rfl rfl rfl hl.1 rfl (Nat.le_of_ble_eq_true rfl) dX4_isReachedWithin_79 ⟨Nat.le_of_ble_eq_true rfl, Nat.le_of_ble_eq_true rfl⟩) hI (fun u9 H locs hp17 hI hfr => ?_)
                      clear hfr
                      obtain rfl := hp17
                      obtain ⟨S18, eS18⟩ : ∃ z, z = yMove S2 y w := ⟨_, rfl⟩
                      rw [← eS18] at hI
                      have hW : cW n S18 := by rw [eS18]; exact yMove_W hW
                      obtain ⟨hIv3, hh3, -⟩ := hIv2.mv hh2 (a := y) (b := w) (by omega) (by omega) h02 c16
                      rw [← eS18] at hIv3 hh3
                      refine lv_aload_n hx hb dX4_isReachedWithin_82 rfl (lv_at hl 4 rfl) ?_
                      refine lv_aload_n hx hb dX4_isReachedWithin_83 rfl (lv_at hl 5 rfl) ?_
                      refine lv_aload_n hx hb dX4_isReachedWithin_84 rfl (lv_at hl 6 rfl) ?_
                      refine lv_iload_n hx hb dX4_isReachedWithin_85 rfl (lv_at hl 7 rfl) ?_
                      refine z_iconst hx hb dX4_isReachedWithin_86 ?_
                      refine z_isub hx hb dX4_isReachedWithin_87 ?_
                      refine zc_i (zrS (As := [.ref (am 1 0), .ref (am 5 lh), .ref (am 8 t), .int (iZ (v - 1))]) (rest := []) ⟨hx, hb, hml, hown, hts⟩ (c_X4_isReachedWithin_3 l D cA n am S18 H.size lh t (v - 1) Z hW hl0 ht hIv3 hh3 (by omega)) (va_cwS 4 hts gX4_isReachedWithin_X4_isReachedWithin rfl rfl rfl (by decide +kernel) ⟨Nat.le_of_ble_eq_true rfl, Nat.le_of_ble_eq_true rfl⟩) hK hI rfl hl.1 rfl (Nat.le_of_ble_eq_true rfl) dX4_isReachedWithin_88 ⟨Nat.le_of_ble_eq_true rfl, Nat.le_of_ble_eq_true rfl⟩) hI (fun z19 u9 H locs hz20 hp21 hI hfr => ?_)
                      clear hfr
                      obtain ⟨S22, rfl, hS22, rfl⟩ := hp21
                      have hW : cW n S22 := hS22.W hW
                      refine lv_istore (lv' := [(5, .int (iZ (zB (mRch 3 (yV n S18 Z) (t : Int))))), (7, .int (iZ w)), (6, .int (iZ y)), (4, .int (iZ (yBefore S lh t))), (0, .ref (am 1 0)), (1, .ref (am 5 lh)), (2, .ref (am 8 t)), (3, .int (iZ v))]) hx hb dX4_isReachedWithin_91 hl (by decide) rfl (fun ls hl => ?_)
                      refine lv_aload_n hx hb dX4_isReachedWithin_93 rfl (lv_at hl 4 rfl) ?_
                      refine lv_iload hx hb dX4_isReachedWithin_94 (lv_at hl 1 rfl) ?_
                      refine lv_iload hx hb dX4_isReachedWithin_96 (lv_at hl 2 rfl) ?_
                      refine zc_v (zrV (As := [.int (iZ w), .int (iZ y)]) (rest := []) (κ := 1) (i := 0) ⟨hx, hb, hml, hown, hts⟩ (c_X3_moveNearest l D cA n am S22 H.size w y hW (by omega) (by omega)) (cwV 2 hts gX4_isReachedWithin_X3_moveNearest rfl rfl rfl (by decide +kernel) ⟨Nat.le_of_ble_eq_true rfl, Nat.le_of_ble_eq_true rfl⟩) hK hI hW.1.2.1 rfl rfl rfl hl.1 rfl (Nat.le_of_ble_eq_true rfl) dX4_isReachedWithin_98 ⟨Nat.le_of_ble_eq_true rfl, Nat.le_of_ble_eq_true rfl⟩) hI (fun u9 H locs hp23 hI hfr => ?_)
                      clear hfr
                      obtain rfl := hp23
                      obtain ⟨S24, eS24⟩ : ∃ z, z = yMove S22 w y := ⟨_, rfl⟩
                      rw [← eS24] at hI
                      have hW : cW n S24 := by rw [eS24]; exact yMove_W hW
                      refine z_iinc (k := 1) (lv' := [(7, .int (iZ (w + 1))), (5, .int (iZ (zB (mRch 3 (yV n S18 Z) (t : Int))))), (6, .int (iZ y)), (4, .int (iZ (yBefore S lh t))), (0, .ref (am 1 0)), (1, .ref (am 5 lh)), (2, .ref (am 8 t)), (3, .int (iZ v))]) hx hb dX4_isReachedWithin_101 hl rfl (by decide) rfl (fun ls hl => ?_)
                      refine lv_goto (tgt := 49) hx hb dX4_isReachedWithin_104 (by decide) ?_
                      exact ih49 (x2 := zB (mRch 3 (yV n S18 Z) (t : Int))) (w := (w + 1)) (S2 := S24) (h1b := by omega) (h5 := by rw [eS24]; exact h5.trans (yBack hIv2.1 hIv2.2.2.1 (by omega) (by omega) c16 (by rw [← eS18]; exact hS22))) (h6 := by have q := zB_0 (by rw [← h6]; exact c12); rw [eS18, zB_iff (yT_t hIv h5 hh (by omega) (by omega) hah0 c16), zB_iff (mEx2_s q (by omega))]) (h7 := by exact zB_R _) (hW := hW) (hk49 := by omega) (hI := hI) (hl := lv_sub hl [0, 2, 1, 3, 4, 5, 6, 7] rfl)
      · skip
        refine z_iconst hx hb dX4_isReachedWithin_24 ?_
        exact (ze_i (u' := (n, am, S)) (z := 0) hx hb hr (iZ_narz (by omega) (by omega)).1 hI (by omega) ⟨S, rfl, cEq.rfl' n S, (zB_f (fun q => by have := yR_le hIv hh q; omega)).symm⟩ (Nat.le_of_ble_eq_true rfl) (Nat.le_of_ble_eq_true rfl) dX4_isReachedWithin_25 hlocks)
  · skip
    refine z_iconst hx hb dX4_isReachedWithin_12 ?_
    exact (ze_i (u' := (n, am, S)) (z := 1) hx hb hr (iZ_narz (by omega) (by omega)).1 hI (by omega) ⟨S, rfl, cEq.rfl' n S, (zB_t (yR_0 hIv hh c4)).symm⟩ (Nat.le_of_ble_eq_true rfl) (Nat.le_of_ble_eq_true rfl) dX4_isReachedWithin_13 hlocks)
set_option maxHeartbeats 4000000 in
set_option maxRecDepth 100000 in
theorem c_X4_bestOfOrders_4 (l : Launch) (D : va_G) (cA : Nat → ClassId) (n : Nat → Nat) (am : ts_Am) (S : ts_St) (sz : Nat) (lh t : Nat) (v b : Int) (Z : ts_St) (hW : cW n S) (hl0 : lh < n 5) (ht : t < n 8) (hIv : cIv n S Z t) (hh : S 8 t 7 = (lh : Int)) (hv : v = 4) (hb0 : 0 ≤ b ∧ b ≤ 5) : Met l yX4_bestOfOrders wsX4_bestOfOrders ({ frames := 1, cells := 0, slots := 0, locals := 40 } : Room) (va_Pc [.ref (am 1 0), .ref (am 5 lh), .ref (am 8 t), .int (iZ v), .int (iZ b)] (zP TX D cA (n, am, S) sz)) (zQi TX D cA (n, am, S) sz (fun z u => ∃ S9, u = (n, am, S9) ∧ cEq n S S9 ∧ (0 ≤ z ∧ z ≤ 5) ∧ cBest (yV n S Z) (t : Int) 4 b z)) 0 0 (ts_A (n, am, S) sz) := by
  refine zM_of (by decide) rfl (Nat.le_of_ble_eq_true rfl) ?_
  intro p e s m below meth c hx hb hr hts hown hlocks hml hname hK hsz H locs hI ls hl
  subst hsz
  have hown : s.vm.findClass RX4 = some m.cls := hown
  have hl : lv_has ls 8 [(0, .ref (am 1 0)), (1, .ref (am 5 lh)), (2, .ref (am 8 t)), (3, .int (iZ v)), (4, .int (iZ b))] := hl
  have hcn := hW.cn
  have hlim := hW.lim
  have hbR := hIv.bR hh
  refine lv_aload_n hx hb dX4_bestOfOrders_0 rfl (lv_at hl 1 rfl) ?_
  refine lv_aload_n hx hb dX4_bestOfOrders_1 rfl (lv_at hl 2 rfl) ?_
  refine zc_i (zrV (As := [.ref (am 8 t)]) (rest := []) (κ := 5) (i := lh) ⟨hx, hb, hml, hown, hts⟩ (c_X2_countBefore l D cA n am S H.size lh t hl0 ht) (cwV 1 hts gX4_bestOfOrders_X2_countBefore rfl rfl rfl (by decide +kernel) ⟨Nat.le_of_ble_eq_true rfl, Nat.le_of_ble_eq_true rfl⟩) hK hI hl0 rfl rfl rfl hl.1 rfl (Nat.le_of_ble_eq_true rfl) dX4_bestOfOrders_2 ⟨Nat.le_of_ble_eq_true rfl, Nat.le_of_ble_eq_true rfl⟩) hI (fun z1 u9 H locs hz2 hp3 hI hfr => ?_)
  clear hfr
  obtain ⟨rfl, rfl⟩ := hp3
  refine z_if_ne (tgt := 15) hx hb dX4_bestOfOrders_5 (by decide) (by omega) (fun c4 => ?_) (fun c4 => ?_)
  · skip
    have hah0 := c4
    refine lv_iload_n hx hb dX4_bestOfOrders_15 rfl (lv_at hl 3 rfl) ?_
    refine z_iconst hx hb dX4_bestOfOrders_16 ?_
    refine z_icmp_ge (tgt := 28) hx hb dX4_bestOfOrders_17 (by decide) (by omega) (by omega) (fun c5 => ?_) (fun c5 => ?_)
    · skip
      refine lv_iload hx hb dX4_bestOfOrders_28 (lv_at hl 4 rfl) ?_
      exact (ze_i (u' := (n, am, S)) (z := b) hx hb hr rfl hI (by omega) ⟨S, rfl, cEq.rfl' n S, (by omega), cBest_b hIv hh hah0 (by omega)⟩ (Nat.le_of_ble_eq_true rfl) (Nat.le_of_ble_eq_true rfl) dX4_bestOfOrders_30 hlocks)
    · skip
      omega
  · skip
    refine lv_iload_n hx hb dX4_bestOfOrders_8 rfl (lv_at hl 3 rfl) ?_
    refine lv_iload hx hb dX4_bestOfOrders_9 (lv_at hl 4 rfl) ?_
    refine z_min hx hb (by rw [hml]; exact hl.1.symm) hown (hts _ (by decide +kernel)) (hts _ (by decide +kernel)) (hts _ (by decide +kernel)) (hts _ (by decide +kernel)) (Nat.le_of_ble_eq_true rfl) (Nat.le_of_ble_eq_true rfl) (Nat.le_of_ble_eq_true rfl) (Nat.le_of_ble_eq_true rfl) (by omega) (by omega) dX4_bestOfOrders_11 ?_
    exact (ze_i (u' := (n, am, S)) (z := (min v b)) hx hb hr rfl hI (by omega) ⟨S, rfl, cEq.rfl' n S, (by omega), by rw [show v = 4 by omega]; exact cBest_0 hIv hh c4⟩ (Nat.le_of_ble_eq_true rfl) (Nat.le_of_ble_eq_true rfl) dX4_bestOfOrders_14 hlocks)
set_option maxHeartbeats 4000000 in
set_option maxRecDepth 100000 in
theorem c_X4_bestOfOrders_3 (l : Launch) (D : va_G) (cA : Nat → ClassId) (n : Nat → Nat) (am : ts_Am) (S : ts_St) (sz : Nat) (lh t : Nat) (v b : Int) (Z : ts_St) (hW : cW n S) (hl0 : lh < n 5) (ht : t < n 8) (hIv : cIv n S Z t) (hh : S 8 t 7 = (lh : Int)) (hv : v = 3) (hb0 : 0 ≤ b ∧ b ≤ 5) : Met l yX4_bestOfOrders wsX4_bestOfOrders ({ frames := 3, cells := 0, slots := 0, locals := 67 } : Room) (va_Pc [.ref (am 1 0), .ref (am 5 lh), .ref (am 8 t), .int (iZ v), .int (iZ b)] (zP TX D cA (n, am, S) sz)) (zQi TX D cA (n, am, S) sz (fun z u => ∃ S9, u = (n, am, S9) ∧ cEq n S S9 ∧ (0 ≤ z ∧ z ≤ 5) ∧ cBest (yV n S Z) (t : Int) 3 b z)) 0 0 (ts_A (n, am, S) sz) := by
  refine zM_of (by decide) rfl (Nat.le_of_ble_eq_true rfl) ?_
  intro p e s m below meth c hx hb hr hts hown hlocks hml hname hK hsz H locs hI ls hl
  subst hsz
  have hown : s.vm.findClass RX4 = some m.cls := hown
  have hl : lv_has ls 8 [(0, .ref (am 1 0)), (1, .ref (am 5 lh)), (2, .ref (am 8 t)), (3, .int (iZ v)), (4, .int (iZ b))] := hl
  have f55 := hts (.fieldLink RX4 55 "DockyardSlots$LaneRow" "count" "I") (by decide +kernel)
  have LX3 : ∀ w ∈ wsX30, w.before [.ref (am 1 0), .ref (am 5 lh), .ref (am 8 t), .int (iZ v), .int (iZ b)].toArray s = true := fun w h => hts w (List.mem_cons_of_mem _ (List.mem_append_left _ (List.mem_append_left _ (List.mem_append_right _ h))))
  have hcn := hW.cn
  have hlim := hW.lim
  have hbR := hIv.bR hh
  refine lv_aload_n hx hb dX4_bestOfOrders_0 rfl (lv_at hl 1 rfl) ?_
  refine lv_aload_n hx hb dX4_bestOfOrders_1 rfl (lv_at hl 2 rfl) ?_
  refine zc_i (zrV (As := [.ref (am 8 t)]) (rest := []) (κ := 5) (i := lh) ⟨hx, hb, hml, hown, hts⟩ (c_X2_countBefore l D cA n am S H.size lh t hl0 ht) (cwV 1 hts gX4_bestOfOrders_X2_countBefore rfl rfl rfl (by decide +kernel) ⟨Nat.le_of_ble_eq_true rfl, Nat.le_of_ble_eq_true rfl⟩) hK hI hl0 rfl rfl rfl hl.1 rfl (Nat.le_of_ble_eq_true rfl) dX4_bestOfOrders_2 ⟨Nat.le_of_ble_eq_true rfl, Nat.le_of_ble_eq_true rfl⟩) hI (fun z1 u9 H locs hz2 hp3 hI hfr => ?_)
  clear hfr
  obtain ⟨rfl, rfl⟩ := hp3
  refine z_if_ne (tgt := 15) hx hb dX4_bestOfOrders_5 (by decide) (by omega) (fun c4 => ?_) (fun c4 => ?_)
  · skip
    have hah0 := c4
    refine lv_iload_n hx hb dX4_bestOfOrders_15 rfl (lv_at hl 3 rfl) ?_
    refine z_iconst hx hb dX4_bestOfOrders_16 ?_
    refine z_icmp_ge (tgt := 28) hx hb dX4_bestOfOrders_17 (by decide) (by omega) (by omega) (fun c5 => ?_) (fun c5 => ?_)
    · skip
      refine lv_iload hx hb dX4_bestOfOrders_28 (lv_at hl 4 rfl) ?_
      exact (ze_i (u' := (n, am, S)) (z := b) hx hb hr rfl hI (by omega) ⟨S, rfl, cEq.rfl' n S, (by omega), cBest_b hIv hh hah0 (by omega)⟩ (Nat.le_of_ble_eq_true rfl) (Nat.le_of_ble_eq_true rfl) dX4_bestOfOrders_30 hlocks)
    · skip
      refine lv_iload_n hx hb dX4_bestOfOrders_20 rfl (lv_at hl 3 rfl) ?_
      refine z_iconst hx hb dX4_bestOfOrders_21 ?_
      refine z_iadd hx hb dX4_bestOfOrders_22 ?_
      refine lv_iload hx hb dX4_bestOfOrders_23 (lv_at hl 4 rfl) ?_
      refine z_icmp_lt (tgt := 31) hx hb dX4_bestOfOrders_25 (by decide) (by omega) (by omega) (fun c6 => ?_) (fun c6 => ?_)
      · skip
        refine lv_iload hx hb dX4_bestOfOrders_31 (lv_at hl 4 rfl) ?_
        refine lv_istore (lv' := [(5, .int (iZ b)), (0, .ref (am 1 0)), (1, .ref (am 5 lh)), (2, .ref (am 8 t)), (3, .int (iZ v)), (4, .int (iZ b))]) hx hb dX4_bestOfOrders_33 hl (by decide) rfl (fun ls hl => ?_)
        refine z_iconst hx hb dX4_bestOfOrders_35 ?_
        refine lv_istore (lv' := [(6, .int (iZ 0)), (5, .int (iZ b)), (0, .ref (am 1 0)), (1, .ref (am 5 lh)), (2, .ref (am 8 t)), (3, .int (iZ v)), (4, .int (iZ b))]) hx hb dX4_bestOfOrders_36 hl (by decide) rfl (fun ls hl => ?_)
        obtain ⟨x, e_x⟩ : ∃ z : Int, z = b := ⟨_, rfl⟩
        obtain ⟨y, e_y⟩ : ∃ z : Int, z = 0 := ⟨_, rfl⟩
        replace hl : lv_has ls 8 [(6, .int (iZ y)), (5, .int (iZ x)), (0, .ref (am 1 0)), (1, .ref (am 5 lh)), (2, .ref (am 8 t)), (3, .int (iZ v)), (4, .int (iZ b))] := by rw [e_x, e_y]; exact hl
        obtain ⟨S1, e_S1⟩ : ∃ z, z = S := ⟨_, rfl⟩
        rw [← e_S1] at hI
        replace hW : cW n S1 := by rw [e_S1]; exact hW
        have h1 : 0 ≤ y ∧ y ≤ (n 5 : Int) := by omega
        have h2 : cEq n S S1 := by rw [e_S1]; exact cEq.rfl' n S
        have h3 : cB (yV n S Z) (t : Int) 3 b (fun d => mEx d (yV n S Z) (t : Int) y) x := by rw [e_x, e_y]; exact cB_0 (fun d => mEx_0)
        have h4 : 0 ≤ x ∧ x ≤ 5 := by omega
        obtain ⟨k38, hk38⟩ : ∃ k : Nat, (n 5 : Int) - y < (k : Int) := ⟨((n 5 : Int) - y).toNat + 1, by omega⟩
        clear e_x e_y e_S1
        induction k38 generalizing x y S1 H locs ls with
        | zero => omega
        | succ k38 ih38 =>
          refine lv_iload hx hb dX4_bestOfOrders_38 (lv_at hl 0 rfl) ?_
          refine lv_aload_n hx hb dX4_bestOfOrders_40 rfl (lv_at hl 2 rfl) ?_
          refine zg_i (κ := 1) (i := 0) (k := 1) hx hb LX3 hown hK hI hW.1.2.1 rfl rfl (by decide) rfl f55 (fun _ h9 => h9) dX4_bestOfOrders_41 rfl (fun b7 => ?_)
          have hcn1 := hW.cn
          refine z_icmp_ge (tgt := 111) hx hb dX4_bestOfOrders_44 (by decide) (by omega) (by omega) (fun c8 => ?_) (fun c8 => ?_)
          · skip
            refine lv_iload hx hb dX4_bestOfOrders_111 (lv_at hl 1 rfl) ?_
            exact (ze_i (u' := (n, am, S1)) (z := x) hx hb hr rfl hI (by omega) ⟨S1, rfl, h2, (by omega), cB_end hIv hh hah0 (by omega) h3⟩ (Nat.le_of_ble_eq_true rfl) (Nat.le_of_ble_eq_true rfl) dX4_bestOfOrders_113 hlocks)
          · skip
            refine z_iconst hx hb dX4_bestOfOrders_47 ?_
            refine lv_istore (lv' := [(7, .int (iZ 0)), (6, .int (iZ y)), (5, .int (iZ x)), (0, .ref (am 1 0)), (1, .ref (am 5 lh)), (2, .ref (am 8 t)), (3, .int (iZ v)), (4, .int (iZ b))]) hx hb dX4_bestOfOrders_48 hl (by decide) rfl (fun ls hl => ?_)
            obtain ⟨x2, e_x2⟩ : ∃ z : Int, z = x := ⟨_, rfl⟩
            obtain ⟨w, e_w⟩ : ∃ z : Int, z = 0 := ⟨_, rfl⟩
            replace hl : lv_has ls 8 [(7, .int (iZ w)), (6, .int (iZ y)), (5, .int (iZ x2)), (0, .ref (am 1 0)), (1, .ref (am 5 lh)), (2, .ref (am 8 t)), (3, .int (iZ v)), (4, .int (iZ b))] := by rw [e_x2, e_w]; exact hl
            obtain ⟨S2, e_S2⟩ : ∃ z, z = S1 := ⟨_, rfl⟩
            rw [← e_S2] at hI
            replace hW : cW n S2 := by rw [e_S2]; exact hW
            have h1b : 0 ≤ w ∧ w ≤ (n 5 : Int) := by omega
            have h5 : cEq n S S2 := by rw [e_S2]; exact h2
            have h6 : cB (yV n S Z) (t : Int) 3 b (fun d => mEx2 d (yV n S Z) (t : Int) y w) x2 := by rw [e_x2, e_w]; exact h3.mono (fun d q => mEx2_0.mp q)
            have h7 : 0 ≤ x2 ∧ x2 ≤ 5 := by omega
            obtain ⟨k50, hk50⟩ : ∃ k : Nat, (n 5 : Int) - w < (k : Int) := ⟨((n 5 : Int) - w).toNat + 1, by omega⟩
            clear e_x2 e_w e_S2
            induction k50 generalizing x2 w S2 H locs ls with
            | zero => omega
            | succ k50 ih50 =>
              refine lv_iload hx hb dX4_bestOfOrders_50 (lv_at hl 0 rfl) ?_
              refine lv_aload_n hx hb dX4_bestOfOrders_52 rfl (lv_at hl 3 rfl) ?_
              refine zg_i (κ := 1) (i := 0) (k := 1) hx hb LX3 hown hK hI hW.1.2.1 rfl rfl (by decide) rfl f55 (fun _ h9 => h9) dX4_bestOfOrders_53 rfl (fun b9 => ?_)
              have hcn2 := hW.cn
              refine z_icmp_ge (tgt := 105) hx hb dX4_bestOfOrders_56 (by decide) (by omega) (by omega) (fun c10 => ?_) (fun c10 => ?_)
              · skip
                refine z_iinc (k := 1) (lv' := [(6, .int (iZ (y + 1))), (7, .int (iZ w)), (5, .int (iZ x2)), (0, .ref (am 1 0)), (1, .ref (am 5 lh)), (2, .ref (am 8 t)), (3, .int (iZ v)), (4, .int (iZ b))]) hx hb dX4_bestOfOrders_105 hl rfl (by decide) rfl (fun ls hl => ?_)
                refine lv_goto (tgt := 38) hx hb dX4_bestOfOrders_108 (by decide) ?_
                exact ih38 (x := x2) (y := (y + 1)) (S1 := S2) (h1 := by omega) (h2 := by exact h5) (h3 := by exact h6.mono (fun d q => mEx_un (by rw [yV_lanes]; omega) q)) (h4 := by omega) (hW := hW) (hk38 := by omega) (hI := hI) (hl := lv_sub hl [0, 2, 3, 4, 5, 6, 7] rfl)
              · skip
                have hIv2 := hIv.eq h5
                have hh2 : S2 8 t 7 = (lh : Int) := (h5.1 8 t 7 (by decide)).trans hh
                have h02 : ¬ yBefore S2 lh t = 0 := by rw [h5.before]; exact hah0
                have hcn2 := hW.cn
                refine lv_aload_n hx hb dX4_bestOfOrders_59 rfl (lv_at hl 3 rfl) ?_
                refine lv_iload hx hb dX4_bestOfOrders_60 (lv_at hl 1 rfl) ?_
                refine lv_iload hx hb dX4_bestOfOrders_62 (lv_at hl 0 rfl) ?_
                refine zc_i (zrV (As := [.int (iZ y), .int (iZ w)]) (rest := []) (κ := 1) (i := 0) ⟨hx, hb, hml, hown, hts⟩ (c_X3_allowMove l D cA n am S2 H.size y w hW (by omega) (by omega)) (cwV 2 hts gX4_bestOfOrders_X3_allowMove rfl rfl rfl (by decide +kernel) ⟨Nat.le_of_ble_eq_true rfl, Nat.le_of_ble_eq_true rfl⟩) hK hI hW.1.2.1 rfl rfl rfl hl.1 rfl (Nat.le_of_ble_eq_true rfl) dX4_bestOfOrders_64 ⟨Nat.le_of_ble_eq_true rfl, Nat.le_of_ble_eq_true rfl⟩) hI (fun z11 u9 H locs hz12 hp13 hI hfr => ?_)
                clear hfr
                obtain ⟨rfl, rfl⟩ := hp13
                refine z_if_eq (tgt := 99) hx hb dX4_bestOfOrders_67 (by decide) (by omega) (fun c14 => ?_) (fun c14 => ?_)
                · skip
                  have c14 := zB_0 c14
                  refine z_iinc (k := 0) (lv' := [(7, .int (iZ (w + 1))), (6, .int (iZ y)), (5, .int (iZ x2)), (0, .ref (am 1 0)), (1, .ref (am 5 lh)), (2, .ref (am 8 t)), (3, .int (iZ v)), (4, .int (iZ b))]) hx hb dX4_bestOfOrders_99 hl rfl (by decide) rfl (fun ls hl => ?_)
                  refine lv_goto (tgt := 50) hx hb dX4_bestOfOrders_102 (by decide) ?_
                  exact ih50 (x2 := x2) (w := (w + 1)) (S2 := S2) (h1b := by omega) (h5 := by exact h5) (h6 := by exact cB_n hIv h5 hh (by omega) (by omega) hah0 c14 h6) (h7 := by omega) (hW := hW) (hk50 := by omega) (hI := hI) (hl := lv_sub hl [0, 1, 2, 3, 4, 5, 6, 7] rfl)
                · skip
                  have c14 := zB_1 c14
                  refine lv_aload_n hx hb dX4_bestOfOrders_70 rfl (lv_at hl 3 rfl) ?_
                  refine lv_iload hx hb dX4_bestOfOrders_71 (lv_at hl 1 rfl) ?_
                  refine lv_iload hx hb dX4_bestOfOrders_73 (lv_at hl 0 rfl) ?_
                  refine zc_v (zrV (As := [.int (iZ y), .int (iZ w)]) (rest := []) (κ := 1) (i := 0) ⟨hx, hb, hml, hown, hts⟩ (c_X3_moveNearest l D cA n am S2 H.size y w hW (by omega) (by omega)) (cwV 2 hts gX4_bestOfOrders_X3_moveNearest rfl rfl rfl (by decide +kernel) ⟨Nat.le_of_ble_eq_true rfl, Nat.le_of_ble_eq_true rfl⟩) hK hI hW.1.2.1 rfl rfl rfl hl.1 rfl (Nat.le_of_ble_eq_true rfl) dX4_bestOfOrders_75 ⟨Nat.le_of_ble_eq_true rfl, Nat.le_of_ble_eq_true rfl⟩) hI (fun u9 H locs hp15 hI hfr => ?_)
                  clear hfr
                  obtain rfl := hp15
                  obtain ⟨S16, eS16⟩ : ∃ z, z = yMove S2 y w := ⟨_, rfl⟩
                  rw [← eS16] at hI
                  have hW : cW n S16 := by rw [eS16]; exact yMove_W hW
                  obtain ⟨hIv3, hh3, -⟩ := hIv2.mv hh2 (a := y) (b := w) (by omega) (by omega) h02 c14
                  rw [← eS16] at hIv3 hh3
                  refine lv_aload_n hx hb dX4_bestOfOrders_78 rfl (lv_at hl 3 rfl) ?_
                  refine lv_aload_n hx hb dX4_bestOfOrders_79 rfl (lv_at hl 4 rfl) ?_
                  refine lv_aload_n hx hb dX4_bestOfOrders_80 rfl (lv_at hl 5 rfl) ?_
                  refine lv_iload_n hx hb dX4_bestOfOrders_81 rfl (lv_at hl 6 rfl) ?_
                  refine z_iconst hx hb dX4_bestOfOrders_82 ?_
                  refine z_iadd hx hb dX4_bestOfOrders_83 ?_
                  refine lv_iload hx hb dX4_bestOfOrders_84 (lv_at hl 2 rfl) ?_
                  refine zc_i (zrS (As := [.ref (am 1 0), .ref (am 5 lh), .ref (am 8 t), .int (iZ (v + 1)), .int (iZ x2)]) (rest := []) ⟨hx, hb, hml, hown, hts⟩ (c_X4_bestOfOrders_4 l D cA n am S16 H.size lh t (v + 1) x2 Z hW hl0 ht hIv3 hh3 (by omega) (by omega)) (va_cwS 5 hts gX4_bestOfOrders_X4_bestOfOrders rfl rfl rfl (by decide +kernel) ⟨Nat.le_of_ble_eq_true rfl, Nat.le_of_ble_eq_true rfl⟩) hK hI rfl hl.1 rfl (Nat.le_of_ble_eq_true rfl) dX4_bestOfOrders_86 ⟨Nat.le_of_ble_eq_true rfl, Nat.le_of_ble_eq_true rfl⟩) hI (fun z17 u9 H locs hz18 hp19 hI hfr => ?_)
                  clear hfr
                  obtain ⟨S20, rfl, hS20, hb21⟩ := hp19
                  have hW : cW n S20 := hS20.W hW
                  refine lv_istore (lv' := [(5, .int (iZ z17)), (7, .int (iZ w)), (6, .int (iZ y)), (0, .ref (am 1 0)), (1, .ref (am 5 lh)), (2, .ref (am 8 t)), (3, .int (iZ v)), (4, .int (iZ b))]) hx hb dX4_bestOfOrders_89 hl (by decide) rfl (fun ls hl => ?_)
                  have hbr := hb21.1
                  refine lv_aload_n hx hb dX4_bestOfOrders_91 rfl (lv_at hl 3 rfl) ?_
                  refine lv_iload hx hb dX4_bestOfOrders_92 (lv_at hl 1 rfl) ?_
                  refine lv_iload hx hb dX4_bestOfOrders_94 (lv_at hl 2 rfl) ?_
                  refine zc_v (zrV (As := [.int (iZ w), .int (iZ y)]) (rest := []) (κ := 1) (i := 0) ⟨hx, hb, hml, hown, hts⟩ (c_X3_moveNearest l D cA n am S20 H.size w y hW (by omega) (by omega)) (cwV 2 hts gX4_bestOfOrders_X3_moveNearest rfl rfl rfl (by decide +kernel) ⟨Nat.le_of_ble_eq_true rfl, Nat.le_of_ble_eq_true rfl⟩) hK hI hW.1.2.1 rfl rfl rfl hl.1 rfl (Nat.le_of_ble_eq_true rfl) dX4_bestOfOrders_96 ⟨Nat.le_of_ble_eq_true rfl, Nat.le_of_ble_eq_true rfl⟩) hI (fun u9 H locs hp22 hI hfr => ?_)
                  clear hfr
                  obtain rfl := hp22
                  obtain ⟨S23, eS23⟩ : ∃ z, z = yMove S20 w y := ⟨_, rfl⟩
                  rw [← eS23] at hI
                  have hW : cW n S23 := by rw [eS23]; exact yMove_W hW
                  refine z_iinc (k := 1) (lv' := [(7, .int (iZ (w + 1))), (5, .int (iZ z17)), (6, .int (iZ y)), (0, .ref (am 1 0)), (1, .ref (am 5 lh)), (2, .ref (am 8 t)), (3, .int (iZ v)), (4, .int (iZ b))]) hx hb dX4_bestOfOrders_99 hl rfl (by decide) rfl (fun ls hl => ?_)
                  refine lv_goto (tgt := 50) hx hb dX4_bestOfOrders_102 (by decide) ?_
                  exact ih50 (x2 := z17) (w := (w + 1)) (S2 := S23) (h1b := by omega) (h5 := by rw [eS23]; exact h5.trans (yBack hIv2.1 hIv2.2.2.1 (by omega) (by omega) c14 (by rw [← eS16]; exact hS20))) (h6 := by exact cB_s hIv h5 hh (by omega) (by omega) hah0 c14 h6 (by rw [← eS16]; exact hb21.2)) (h7 := by omega) (hW := hW) (hk50 := by omega) (hI := hI) (hl := lv_sub hl [0, 2, 1, 3, 4, 5, 6, 7] rfl)
      · skip
        refine lv_iload hx hb dX4_bestOfOrders_28 (lv_at hl 4 rfl) ?_
        exact (ze_i (u' := (n, am, S)) (z := b) hx hb hr rfl hI (by omega) ⟨S, rfl, cEq.rfl' n S, (by omega), cBest_b hIv hh hah0 (by omega)⟩ (Nat.le_of_ble_eq_true rfl) (Nat.le_of_ble_eq_true rfl) dX4_bestOfOrders_30 hlocks)
  · skip
    refine lv_iload_n hx hb dX4_bestOfOrders_8 rfl (lv_at hl 3 rfl) ?_
    refine lv_iload hx hb dX4_bestOfOrders_9 (lv_at hl 4 rfl) ?_
    refine z_min hx hb (by rw [hml]; exact hl.1.symm) hown (hts _ (by decide +kernel)) (hts _ (by decide +kernel)) (hts _ (by decide +kernel)) (hts _ (by decide +kernel)) (Nat.le_of_ble_eq_true rfl) (Nat.le_of_ble_eq_true rfl) (Nat.le_of_ble_eq_true rfl) (Nat.le_of_ble_eq_true rfl) (by omega) (by omega) dX4_bestOfOrders_11 ?_
    exact (ze_i (u' := (n, am, S)) (z := (min v b)) hx hb hr rfl hI (by omega) ⟨S, rfl, cEq.rfl' n S, (by omega), by rw [show v = 3 by omega]; exact cBest_0 hIv hh c4⟩ (Nat.le_of_ble_eq_true rfl) (Nat.le_of_ble_eq_true rfl) dX4_bestOfOrders_14 hlocks)
set_option maxHeartbeats 4000000 in
set_option maxRecDepth 100000 in
theorem c_X4_bestOfOrders_2 (l : Launch) (D : va_G) (cA : Nat → ClassId) (n : Nat → Nat) (am : ts_Am) (S : ts_St) (sz : Nat) (lh t : Nat) (v b : Int) (Z : ts_St) (hW : cW n S) (hl0 : lh < n 5) (ht : t < n 8) (hIv : cIv n S Z t) (hh : S 8 t 7 = (lh : Int)) (hv : v = 2) (hb0 : 0 ≤ b ∧ b ≤ 5) : Met l yX4_bestOfOrders wsX4_bestOfOrders ({ frames := 4, cells := 0, slots := 0, locals := 94 } : Room) (va_Pc [.ref (am 1 0), .ref (am 5 lh), .ref (am 8 t), .int (iZ v), .int (iZ b)] (zP TX D cA (n, am, S) sz)) (zQi TX D cA (n, am, S) sz (fun z u => ∃ S9, u = (n, am, S9) ∧ cEq n S S9 ∧ (0 ≤ z ∧ z ≤ 5) ∧ cBest (yV n S Z) (t : Int) 2 b z)) 0 0 (ts_A (n, am, S) sz) := by
  refine zM_of (by decide) rfl (Nat.le_of_ble_eq_true rfl) ?_
  intro p e s m below meth c hx hb hr hts hown hlocks hml hname hK hsz H locs hI ls hl
  subst hsz
  have hown : s.vm.findClass RX4 = some m.cls := hown
  have hl : lv_has ls 8 [(0, .ref (am 1 0)), (1, .ref (am 5 lh)), (2, .ref (am 8 t)), (3, .int (iZ v)), (4, .int (iZ b))] := hl
  have f55 := hts (.fieldLink RX4 55 "DockyardSlots$LaneRow" "count" "I") (by decide +kernel)
  have LX3 : ∀ w ∈ wsX30, w.before [.ref (am 1 0), .ref (am 5 lh), .ref (am 8 t), .int (iZ v), .int (iZ b)].toArray s = true := fun w h => hts w (List.mem_cons_of_mem _ (List.mem_append_left _ (List.mem_append_left _ (List.mem_append_right _ h))))
  have hcn := hW.cn
  have hlim := hW.lim
  have hbR := hIv.bR hh
  refine lv_aload_n hx hb dX4_bestOfOrders_0 rfl (lv_at hl 1 rfl) ?_
  refine lv_aload_n hx hb dX4_bestOfOrders_1 rfl (lv_at hl 2 rfl) ?_
  refine zc_i (zrV (As := [.ref (am 8 t)]) (rest := []) (κ := 5) (i := lh) ⟨hx, hb, hml, hown, hts⟩ (c_X2_countBefore l D cA n am S H.size lh t hl0 ht) (cwV 1 hts gX4_bestOfOrders_X2_countBefore rfl rfl rfl (by decide +kernel) ⟨Nat.le_of_ble_eq_true rfl, Nat.le_of_ble_eq_true rfl⟩) hK hI hl0 rfl rfl rfl hl.1 rfl (Nat.le_of_ble_eq_true rfl) dX4_bestOfOrders_2 ⟨Nat.le_of_ble_eq_true rfl, Nat.le_of_ble_eq_true rfl⟩) hI (fun z1 u9 H locs hz2 hp3 hI hfr => ?_)
  clear hfr
  obtain ⟨rfl, rfl⟩ := hp3
  refine z_if_ne (tgt := 15) hx hb dX4_bestOfOrders_5 (by decide) (by omega) (fun c4 => ?_) (fun c4 => ?_)
  · skip
    have hah0 := c4
    refine lv_iload_n hx hb dX4_bestOfOrders_15 rfl (lv_at hl 3 rfl) ?_
    refine z_iconst hx hb dX4_bestOfOrders_16 ?_
    refine z_icmp_ge (tgt := 28) hx hb dX4_bestOfOrders_17 (by decide) (by omega) (by omega) (fun c5 => ?_) (fun c5 => ?_)
    · skip
      refine lv_iload hx hb dX4_bestOfOrders_28 (lv_at hl 4 rfl) ?_
      exact (ze_i (u' := (n, am, S)) (z := b) hx hb hr rfl hI (by omega) ⟨S, rfl, cEq.rfl' n S, (by omega), cBest_b hIv hh hah0 (by omega)⟩ (Nat.le_of_ble_eq_true rfl) (Nat.le_of_ble_eq_true rfl) dX4_bestOfOrders_30 hlocks)
    · skip
      refine lv_iload_n hx hb dX4_bestOfOrders_20 rfl (lv_at hl 3 rfl) ?_
      refine z_iconst hx hb dX4_bestOfOrders_21 ?_
      refine z_iadd hx hb dX4_bestOfOrders_22 ?_
      refine lv_iload hx hb dX4_bestOfOrders_23 (lv_at hl 4 rfl) ?_
      refine z_icmp_lt (tgt := 31) hx hb dX4_bestOfOrders_25 (by decide) (by omega) (by omega) (fun c6 => ?_) (fun c6 => ?_)
      · skip
        refine lv_iload hx hb dX4_bestOfOrders_31 (lv_at hl 4 rfl) ?_
        refine lv_istore (lv' := [(5, .int (iZ b)), (0, .ref (am 1 0)), (1, .ref (am 5 lh)), (2, .ref (am 8 t)), (3, .int (iZ v)), (4, .int (iZ b))]) hx hb dX4_bestOfOrders_33 hl (by decide) rfl (fun ls hl => ?_)
        refine z_iconst hx hb dX4_bestOfOrders_35 ?_
        refine lv_istore (lv' := [(6, .int (iZ 0)), (5, .int (iZ b)), (0, .ref (am 1 0)), (1, .ref (am 5 lh)), (2, .ref (am 8 t)), (3, .int (iZ v)), (4, .int (iZ b))]) hx hb dX4_bestOfOrders_36 hl (by decide) rfl (fun ls hl => ?_)
        obtain ⟨x, e_x⟩ : ∃ z : Int, z = b := ⟨_, rfl⟩
        obtain ⟨y, e_y⟩ : ∃ z : Int, z = 0 := ⟨_, rfl⟩
        replace hl : lv_has ls 8 [(6, .int (iZ y)), (5, .int (iZ x)), (0, .ref (am 1 0)), (1, .ref (am 5 lh)), (2, .ref (am 8 t)), (3, .int (iZ v)), (4, .int (iZ b))] := by rw [e_x, e_y]; exact hl
        obtain ⟨S1, e_S1⟩ : ∃ z, z = S := ⟨_, rfl⟩
        rw [← e_S1] at hI
        replace hW : cW n S1 := by rw [e_S1]; exact hW
        have h1 : 0 ≤ y ∧ y ≤ (n 5 : Int) := by omega
        have h2 : cEq n S S1 := by rw [e_S1]; exact cEq.rfl' n S
        have h3 : cB (yV n S Z) (t : Int) 2 b (fun d => mEx d (yV n S Z) (t : Int) y) x := by rw [e_x, e_y]; exact cB_0 (fun d => mEx_0)
        have h4 : 0 ≤ x ∧ x ≤ 5 := by omega
        obtain ⟨k38, hk38⟩ : ∃ k : Nat, (n 5 : Int) - y < (k : Int) := ⟨((n 5 : Int) - y).toNat + 1, by omega⟩
        clear e_x e_y e_S1
        induction k38 generalizing x y S1 H locs ls with
        | zero => omega
        | succ k38 ih38 =>
          refine lv_iload hx hb dX4_bestOfOrders_38 (lv_at hl 0 rfl) ?_
          refine lv_aload_n hx hb dX4_bestOfOrders_40 rfl (lv_at hl 2 rfl) ?_
          refine zg_i (κ := 1) (i := 0) (k := 1) hx hb LX3 hown hK hI hW.1.2.1 rfl rfl (by decide) rfl f55 (fun _ h9 => h9) dX4_bestOfOrders_41 rfl (fun b7 => ?_)
          have hcn1 := hW.cn
          refine z_icmp_ge (tgt := 111) hx hb dX4_bestOfOrders_44 (by decide) (by omega) (by omega) (fun c8 => ?_) (fun c8 => ?_)
          · skip
            refine lv_iload hx hb dX4_bestOfOrders_111 (lv_at hl 1 rfl) ?_
            exact (ze_i (u' := (n, am, S1)) (z := x) hx hb hr rfl hI (by omega) ⟨S1, rfl, h2, (by omega), cB_end hIv hh hah0 (by omega) h3⟩ (Nat.le_of_ble_eq_true rfl) (Nat.le_of_ble_eq_true rfl) dX4_bestOfOrders_113 hlocks)
          · skip
            refine z_iconst hx hb dX4_bestOfOrders_47 ?_
            refine lv_istore (lv' := [(7, .int (iZ 0)), (6, .int (iZ y)), (5, .int (iZ x)), (0, .ref (am 1 0)), (1, .ref (am 5 lh)), (2, .ref (am 8 t)), (3, .int (iZ v)), (4, .int (iZ b))]) hx hb dX4_bestOfOrders_48 hl (by decide) rfl (fun ls hl => ?_)
            obtain ⟨x2, e_x2⟩ : ∃ z : Int, z = x := ⟨_, rfl⟩
            obtain ⟨w, e_w⟩ : ∃ z : Int, z = 0 := ⟨_, rfl⟩
            replace hl : lv_has ls 8 [(7, .int (iZ w)), (6, .int (iZ y)), (5, .int (iZ x2)), (0, .ref (am 1 0)), (1, .ref (am 5 lh)), (2, .ref (am 8 t)), (3, .int (iZ v)), (4, .int (iZ b))] := by rw [e_x2, e_w]; exact hl
            obtain ⟨S2, e_S2⟩ : ∃ z, z = S1 := ⟨_, rfl⟩
            rw [← e_S2] at hI
            replace hW : cW n S2 := by rw [e_S2]; exact hW
            have h1b : 0 ≤ w ∧ w ≤ (n 5 : Int) := by omega
            have h5 : cEq n S S2 := by rw [e_S2]; exact h2
            have h6 : cB (yV n S Z) (t : Int) 2 b (fun d => mEx2 d (yV n S Z) (t : Int) y w) x2 := by rw [e_x2, e_w]; exact h3.mono (fun d q => mEx2_0.mp q)
            have h7 : 0 ≤ x2 ∧ x2 ≤ 5 := by omega
            obtain ⟨k50, hk50⟩ : ∃ k : Nat, (n 5 : Int) - w < (k : Int) := ⟨((n 5 : Int) - w).toNat + 1, by omega⟩
            clear e_x2 e_w e_S2
            induction k50 generalizing x2 w S2 H locs ls with
            | zero => omega
            | succ k50 ih50 =>
              refine lv_iload hx hb dX4_bestOfOrders_50 (lv_at hl 0 rfl) ?_
              refine lv_aload_n hx hb dX4_bestOfOrders_52 rfl (lv_at hl 3 rfl) ?_
              refine zg_i (κ := 1) (i := 0) (k := 1) hx hb LX3 hown hK hI hW.1.2.1 rfl rfl (by decide) rfl f55 (fun _ h9 => h9) dX4_bestOfOrders_53 rfl (fun b9 => ?_)
              have hcn2 := hW.cn
              refine z_icmp_ge (tgt := 105) hx hb dX4_bestOfOrders_56 (by decide) (by omega) (by omega) (fun c10 => ?_) (fun c10 => ?_)
              · skip
                refine z_iinc (k := 1) (lv' := [(6, .int (iZ (y + 1))), (7, .int (iZ w)), (5, .int (iZ x2)), (0, .ref (am 1 0)), (1, .ref (am 5 lh)), (2, .ref (am 8 t)), (3, .int (iZ v)), (4, .int (iZ b))]) hx hb dX4_bestOfOrders_105 hl rfl (by decide) rfl (fun ls hl => ?_)
                refine lv_goto (tgt := 38) hx hb dX4_bestOfOrders_108 (by decide) ?_
                exact ih38 (x := x2) (y := (y + 1)) (S1 := S2) (h1 := by omega) (h2 := by exact h5) (h3 := by exact h6.mono (fun d q => mEx_un (by rw [yV_lanes]; omega) q)) (h4 := by omega) (hW := hW) (hk38 := by omega) (hI := hI) (hl := lv_sub hl [0, 2, 3, 4, 5, 6, 7] rfl)
              · skip
                have hIv2 := hIv.eq h5
                have hh2 : S2 8 t 7 = (lh : Int) := (h5.1 8 t 7 (by decide)).trans hh
                have h02 : ¬ yBefore S2 lh t = 0 := by rw [h5.before]; exact hah0
                have hcn2 := hW.cn
                refine lv_aload_n hx hb dX4_bestOfOrders_59 rfl (lv_at hl 3 rfl) ?_
                refine lv_iload hx hb dX4_bestOfOrders_60 (lv_at hl 1 rfl) ?_
                refine lv_iload hx hb dX4_bestOfOrders_62 (lv_at hl 0 rfl) ?_
                refine zc_i (zrV (As := [.int (iZ y), .int (iZ w)]) (rest := []) (κ := 1) (i := 0) ⟨hx, hb, hml, hown, hts⟩ (c_X3_allowMove l D cA n am S2 H.size y w hW (by omega) (by omega)) (cwV 2 hts gX4_bestOfOrders_X3_allowMove rfl rfl rfl (by decide +kernel) ⟨Nat.le_of_ble_eq_true rfl, Nat.le_of_ble_eq_true rfl⟩) hK hI hW.1.2.1 rfl rfl rfl hl.1 rfl (Nat.le_of_ble_eq_true rfl) dX4_bestOfOrders_64 ⟨Nat.le_of_ble_eq_true rfl, Nat.le_of_ble_eq_true rfl⟩) hI (fun z11 u9 H locs hz12 hp13 hI hfr => ?_)
                clear hfr
                obtain ⟨rfl, rfl⟩ := hp13
                refine z_if_eq (tgt := 99) hx hb dX4_bestOfOrders_67 (by decide) (by omega) (fun c14 => ?_) (fun c14 => ?_)
                · skip
                  have c14 := zB_0 c14
                  refine z_iinc (k := 0) (lv' := [(7, .int (iZ (w + 1))), (6, .int (iZ y)), (5, .int (iZ x2)), (0, .ref (am 1 0)), (1, .ref (am 5 lh)), (2, .ref (am 8 t)), (3, .int (iZ v)), (4, .int (iZ b))]) hx hb dX4_bestOfOrders_99 hl rfl (by decide) rfl (fun ls hl => ?_)
                  refine lv_goto (tgt := 50) hx hb dX4_bestOfOrders_102 (by decide) ?_
                  exact ih50 (x2 := x2) (w := (w + 1)) (S2 := S2) (h1b := by omega) (h5 := by exact h5) (h6 := by exact cB_n hIv h5 hh (by omega) (by omega) hah0 c14 h6) (h7 := by omega) (hW := hW) (hk50 := by omega) (hI := hI) (hl := lv_sub hl [0, 1, 2, 3, 4, 5, 6, 7] rfl)
                · skip
                  have c14 := zB_1 c14
                  refine lv_aload_n hx hb dX4_bestOfOrders_70 rfl (lv_at hl 3 rfl) ?_
                  refine lv_iload hx hb dX4_bestOfOrders_71 (lv_at hl 1 rfl) ?_
                  refine lv_iload hx hb dX4_bestOfOrders_73 (lv_at hl 0 rfl) ?_
                  refine zc_v (zrV (As := [.int (iZ y), .int (iZ w)]) (rest := []) (κ := 1) (i := 0) ⟨hx, hb, hml, hown, hts⟩ (c_X3_moveNearest l D cA n am S2 H.size y w hW (by omega) (by omega)) (cwV 2 hts gX4_bestOfOrders_X3_moveNearest rfl rfl rfl (by decide +kernel) ⟨Nat.le_of_ble_eq_true rfl, Nat.le_of_ble_eq_true rfl⟩) hK hI hW.1.2.1 rfl rfl rfl hl.1 rfl (Nat.le_of_ble_eq_true rfl) dX4_bestOfOrders_75 ⟨Nat.le_of_ble_eq_true rfl, Nat.le_of_ble_eq_true rfl⟩) hI (fun u9 H locs hp15 hI hfr => ?_)
                  clear hfr
                  obtain rfl := hp15
                  obtain ⟨S16, eS16⟩ : ∃ z, z = yMove S2 y w := ⟨_, rfl⟩
                  rw [← eS16] at hI
                  have hW : cW n S16 := by rw [eS16]; exact yMove_W hW
                  obtain ⟨hIv3, hh3, -⟩ := hIv2.mv hh2 (a := y) (b := w) (by omega) (by omega) h02 c14
                  rw [← eS16] at hIv3 hh3
                  refine lv_aload_n hx hb dX4_bestOfOrders_78 rfl (lv_at hl 3 rfl) ?_
                  refine lv_aload_n hx hb dX4_bestOfOrders_79 rfl (lv_at hl 4 rfl) ?_
                  refine lv_aload_n hx hb dX4_bestOfOrders_80 rfl (lv_at hl 5 rfl) ?_
                  refine lv_iload_n hx hb dX4_bestOfOrders_81 rfl (lv_at hl 6 rfl) ?_
                  refine z_iconst hx hb dX4_bestOfOrders_82 ?_
                  refine z_iadd hx hb dX4_bestOfOrders_83 ?_
                  refine lv_iload hx hb dX4_bestOfOrders_84 (lv_at hl 2 rfl) ?_
                  refine zc_i (zrS (As := [.ref (am 1 0), .ref (am 5 lh), .ref (am 8 t), .int (iZ (v + 1)), .int (iZ x2)]) (rest := []) ⟨hx, hb, hml, hown, hts⟩ (c_X4_bestOfOrders_3 l D cA n am S16 H.size lh t (v + 1) x2 Z hW hl0 ht hIv3 hh3 (by omega) (by omega)) (va_cwS 5 hts gX4_bestOfOrders_X4_bestOfOrders rfl rfl rfl (by decide +kernel) ⟨Nat.le_of_ble_eq_true rfl, Nat.le_of_ble_eq_true rfl⟩) hK hI rfl hl.1 rfl (Nat.le_of_ble_eq_true rfl) dX4_bestOfOrders_86 ⟨Nat.le_of_ble_eq_true rfl, Nat.le_of_ble_eq_true rfl⟩) hI (fun z17 u9 H locs hz18 hp19 hI hfr => ?_)
                  clear hfr
                  obtain ⟨S20, rfl, hS20, hb21⟩ := hp19
                  have hW : cW n S20 := hS20.W hW
                  refine lv_istore (lv' := [(5, .int (iZ z17)), (7, .int (iZ w)), (6, .int (iZ y)), (0, .ref (am 1 0)), (1, .ref (am 5 lh)), (2, .ref (am 8 t)), (3, .int (iZ v)), (4, .int (iZ b))]) hx hb dX4_bestOfOrders_89 hl (by decide) rfl (fun ls hl => ?_)
                  have hbr := hb21.1
                  refine lv_aload_n hx hb dX4_bestOfOrders_91 rfl (lv_at hl 3 rfl) ?_
                  refine lv_iload hx hb dX4_bestOfOrders_92 (lv_at hl 1 rfl) ?_
                  refine lv_iload hx hb dX4_bestOfOrders_94 (lv_at hl 2 rfl) ?_
                  refine zc_v (zrV (As := [.int (iZ w), .int (iZ y)]) (rest := []) (κ := 1) (i := 0) ⟨hx, hb, hml, hown, hts⟩ (c_X3_moveNearest l D cA n am S20 H.size w y hW (by omega) (by omega)) (cwV 2 hts gX4_bestOfOrders_X3_moveNearest rfl rfl rfl (by decide +kernel) ⟨Nat.le_of_ble_eq_true rfl, Nat.le_of_ble_eq_true rfl⟩) hK hI hW.1.2.1 rfl rfl rfl hl.1 rfl (Nat.le_of_ble_eq_true rfl) dX4_bestOfOrders_96 ⟨Nat.le_of_ble_eq_true rfl, Nat.le_of_ble_eq_true rfl⟩) hI (fun u9 H locs hp22 hI hfr => ?_)
                  clear hfr
                  obtain rfl := hp22
                  obtain ⟨S23, eS23⟩ : ∃ z, z = yMove S20 w y := ⟨_, rfl⟩
                  rw [← eS23] at hI
                  have hW : cW n S23 := by rw [eS23]; exact yMove_W hW
                  refine z_iinc (k := 1) (lv' := [(7, .int (iZ (w + 1))), (5, .int (iZ z17)), (6, .int (iZ y)), (0, .ref (am 1 0)), (1, .ref (am 5 lh)), (2, .ref (am 8 t)), (3, .int (iZ v)), (4, .int (iZ b))]) hx hb dX4_bestOfOrders_99 hl rfl (by decide) rfl (fun ls hl => ?_)
                  refine lv_goto (tgt := 50) hx hb dX4_bestOfOrders_102 (by decide) ?_
                  exact ih50 (x2 := z17) (w := (w + 1)) (S2 := S23) (h1b := by omega) (h5 := by rw [eS23]; exact h5.trans (yBack hIv2.1 hIv2.2.2.1 (by omega) (by omega) c14 (by rw [← eS16]; exact hS20))) (h6 := by exact cB_s hIv h5 hh (by omega) (by omega) hah0 c14 h6 (by rw [← eS16]; exact hb21.2)) (h7 := by omega) (hW := hW) (hk50 := by omega) (hI := hI) (hl := lv_sub hl [0, 2, 1, 3, 4, 5, 6, 7] rfl)
      · skip
        refine lv_iload hx hb dX4_bestOfOrders_28 (lv_at hl 4 rfl) ?_
        exact (ze_i (u' := (n, am, S)) (z := b) hx hb hr rfl hI (by omega) ⟨S, rfl, cEq.rfl' n S, (by omega), cBest_b hIv hh hah0 (by omega)⟩ (Nat.le_of_ble_eq_true rfl) (Nat.le_of_ble_eq_true rfl) dX4_bestOfOrders_30 hlocks)
  · skip
    refine lv_iload_n hx hb dX4_bestOfOrders_8 rfl (lv_at hl 3 rfl) ?_
    refine lv_iload hx hb dX4_bestOfOrders_9 (lv_at hl 4 rfl) ?_
    refine z_min hx hb (by rw [hml]; exact hl.1.symm) hown (hts _ (by decide +kernel)) (hts _ (by decide +kernel)) (hts _ (by decide +kernel)) (hts _ (by decide +kernel)) (Nat.le_of_ble_eq_true rfl) (Nat.le_of_ble_eq_true rfl) (Nat.le_of_ble_eq_true rfl) (Nat.le_of_ble_eq_true rfl) (by omega) (by omega) dX4_bestOfOrders_11 ?_
    exact (ze_i (u' := (n, am, S)) (z := (min v b)) hx hb hr rfl hI (by omega) ⟨S, rfl, cEq.rfl' n S, (by omega), by rw [show v = 2 by omega]; exact cBest_0 hIv hh c4⟩ (Nat.le_of_ble_eq_true rfl) (Nat.le_of_ble_eq_true rfl) dX4_bestOfOrders_14 hlocks)
set_option maxHeartbeats 4000000 in
set_option maxRecDepth 100000 in
theorem c_X4_bestOfOrders_1 (l : Launch) (D : va_G) (cA : Nat → ClassId) (n : Nat → Nat) (am : ts_Am) (S : ts_St) (sz : Nat) (lh t : Nat) (v b : Int) (Z : ts_St) (hW : cW n S) (hl0 : lh < n 5) (ht : t < n 8) (hIv : cIv n S Z t) (hh : S 8 t 7 = (lh : Int)) (hv : v = 1) (hb0 : 0 ≤ b ∧ b ≤ 5) : Met l yX4_bestOfOrders wsX4_bestOfOrders ({ frames := 5, cells := 0, slots := 0, locals := 121 } : Room) (va_Pc [.ref (am 1 0), .ref (am 5 lh), .ref (am 8 t), .int (iZ v), .int (iZ b)] (zP TX D cA (n, am, S) sz)) (zQi TX D cA (n, am, S) sz (fun z u => ∃ S9, u = (n, am, S9) ∧ cEq n S S9 ∧ (0 ≤ z ∧ z ≤ 5) ∧ cBest (yV n S Z) (t : Int) 1 b z)) 0 0 (ts_A (n, am, S) sz) := by
  refine zM_of (by decide) rfl (Nat.le_of_ble_eq_true rfl) ?_
  intro p e s m below meth c hx hb hr hts hown hlocks hml hname hK hsz H locs hI ls hl
  subst hsz
  have hown : s.vm.findClass RX4 = some m.cls := hown
  have hl : lv_has ls 8 [(0, .ref (am 1 0)), (1, .ref (am 5 lh)), (2, .ref (am 8 t)), (3, .int (iZ v)), (4, .int (iZ b))] := hl
  have f55 := hts (.fieldLink RX4 55 "DockyardSlots$LaneRow" "count" "I") (by decide +kernel)
  have LX3 : ∀ w ∈ wsX30, w.before [.ref (am 1 0), .ref (am 5 lh), .ref (am 8 t), .int (iZ v), .int (iZ b)].toArray s = true := fun w h => hts w (List.mem_cons_of_mem _ (List.mem_append_left _ (List.mem_append_left _ (List.mem_append_right _ h))))
  have hcn := hW.cn
  have hlim := hW.lim
  have hbR := hIv.bR hh
  refine lv_aload_n hx hb dX4_bestOfOrders_0 rfl (lv_at hl 1 rfl) ?_
  refine lv_aload_n hx hb dX4_bestOfOrders_1 rfl (lv_at hl 2 rfl) ?_
  refine zc_i (zrV (As := [.ref (am 8 t)]) (rest := []) (κ := 5) (i := lh) ⟨hx, hb, hml, hown, hts⟩ (c_X2_countBefore l D cA n am S H.size lh t hl0 ht) (cwV 1 hts gX4_bestOfOrders_X2_countBefore rfl rfl rfl (by decide +kernel) ⟨Nat.le_of_ble_eq_true rfl, Nat.le_of_ble_eq_true rfl⟩) hK hI hl0 rfl rfl rfl hl.1 rfl (Nat.le_of_ble_eq_true rfl) dX4_bestOfOrders_2 ⟨Nat.le_of_ble_eq_true rfl, Nat.le_of_ble_eq_true rfl⟩) hI (fun z1 u9 H locs hz2 hp3 hI hfr => ?_)
  clear hfr
  obtain ⟨rfl, rfl⟩ := hp3
  refine z_if_ne (tgt := 15) hx hb dX4_bestOfOrders_5 (by decide) (by omega) (fun c4 => ?_) (fun c4 => ?_)
  · skip
    have hah0 := c4
    refine lv_iload_n hx hb dX4_bestOfOrders_15 rfl (lv_at hl 3 rfl) ?_
    refine z_iconst hx hb dX4_bestOfOrders_16 ?_
    refine z_icmp_ge (tgt := 28) hx hb dX4_bestOfOrders_17 (by decide) (by omega) (by omega) (fun c5 => ?_) (fun c5 => ?_)
    · skip
      refine lv_iload hx hb dX4_bestOfOrders_28 (lv_at hl 4 rfl) ?_
      exact (ze_i (u' := (n, am, S)) (z := b) hx hb hr rfl hI (by omega) ⟨S, rfl, cEq.rfl' n S, (by omega), cBest_b hIv hh hah0 (by omega)⟩ (Nat.le_of_ble_eq_true rfl) (Nat.le_of_ble_eq_true rfl) dX4_bestOfOrders_30 hlocks)
    · skip
      refine lv_iload_n hx hb dX4_bestOfOrders_20 rfl (lv_at hl 3 rfl) ?_
      refine z_iconst hx hb dX4_bestOfOrders_21 ?_
      refine z_iadd hx hb dX4_bestOfOrders_22 ?_
      refine lv_iload hx hb dX4_bestOfOrders_23 (lv_at hl 4 rfl) ?_
      refine z_icmp_lt (tgt := 31) hx hb dX4_bestOfOrders_25 (by decide) (by omega) (by omega) (fun c6 => ?_) (fun c6 => ?_)
      · skip
        refine lv_iload hx hb dX4_bestOfOrders_31 (lv_at hl 4 rfl) ?_
        refine lv_istore (lv' := [(5, .int (iZ b)), (0, .ref (am 1 0)), (1, .ref (am 5 lh)), (2, .ref (am 8 t)), (3, .int (iZ v)), (4, .int (iZ b))]) hx hb dX4_bestOfOrders_33 hl (by decide) rfl (fun ls hl => ?_)
        refine z_iconst hx hb dX4_bestOfOrders_35 ?_
        refine lv_istore (lv' := [(6, .int (iZ 0)), (5, .int (iZ b)), (0, .ref (am 1 0)), (1, .ref (am 5 lh)), (2, .ref (am 8 t)), (3, .int (iZ v)), (4, .int (iZ b))]) hx hb dX4_bestOfOrders_36 hl (by decide) rfl (fun ls hl => ?_)
        obtain ⟨x, e_x⟩ : ∃ z : Int, z = b := ⟨_, rfl⟩
        obtain ⟨y, e_y⟩ : ∃ z : Int, z = 0 := ⟨_, rfl⟩
        replace hl : lv_has ls 8 [(6, .int (iZ y)), (5, .int (iZ x)), (0, .ref (am 1 0)), (1, .ref (am 5 lh)), (2, .ref (am 8 t)), (3, .int (iZ v)), (4, .int (iZ b))] := by rw [e_x, e_y]; exact hl
        obtain ⟨S1, e_S1⟩ : ∃ z, z = S := ⟨_, rfl⟩
        rw [← e_S1] at hI
        replace hW : cW n S1 := by rw [e_S1]; exact hW
        have h1 : 0 ≤ y ∧ y ≤ (n 5 : Int) := by omega
        have h2 : cEq n S S1 := by rw [e_S1]; exact cEq.rfl' n S
        have h3 : cB (yV n S Z) (t : Int) 1 b (fun d => mEx d (yV n S Z) (t : Int) y) x := by rw [e_x, e_y]; exact cB_0 (fun d => mEx_0)
        have h4 : 0 ≤ x ∧ x ≤ 5 := by omega
        obtain ⟨k38, hk38⟩ : ∃ k : Nat, (n 5 : Int) - y < (k : Int) := ⟨((n 5 : Int) - y).toNat + 1, by omega⟩
        clear e_x e_y e_S1
        induction k38 generalizing x y S1 H locs ls with
        | zero => omega
        | succ k38 ih38 =>
          refine lv_iload hx hb dX4_bestOfOrders_38 (lv_at hl 0 rfl) ?_
          refine lv_aload_n hx hb dX4_bestOfOrders_40 rfl (lv_at hl 2 rfl) ?_
          refine zg_i (κ := 1) (i := 0) (k := 1) hx hb LX3 hown hK hI hW.1.2.1 rfl rfl (by decide) rfl f55 (fun _ h9 => h9) dX4_bestOfOrders_41 rfl (fun b7 => ?_)
          have hcn1 := hW.cn
          refine z_icmp_ge (tgt := 111) hx hb dX4_bestOfOrders_44 (by decide) (by omega) (by omega) (fun c8 => ?_) (fun c8 => ?_)
          · skip
            refine lv_iload hx hb dX4_bestOfOrders_111 (lv_at hl 1 rfl) ?_
            exact (ze_i (u' := (n, am, S1)) (z := x) hx hb hr rfl hI (by omega) ⟨S1, rfl, h2, (by omega), cB_end hIv hh hah0 (by omega) h3⟩ (Nat.le_of_ble_eq_true rfl) (Nat.le_of_ble_eq_true rfl) dX4_bestOfOrders_113 hlocks)
          · skip
            refine z_iconst hx hb dX4_bestOfOrders_47 ?_
            refine lv_istore (lv' := [(7, .int (iZ 0)), (6, .int (iZ y)), (5, .int (iZ x)), (0, .ref (am 1 0)), (1, .ref (am 5 lh)), (2, .ref (am 8 t)), (3, .int (iZ v)), (4, .int (iZ b))]) hx hb dX4_bestOfOrders_48 hl (by decide) rfl (fun ls hl => ?_)
            obtain ⟨x2, e_x2⟩ : ∃ z : Int, z = x := ⟨_, rfl⟩
            obtain ⟨w, e_w⟩ : ∃ z : Int, z = 0 := ⟨_, rfl⟩
            replace hl : lv_has ls 8 [(7, .int (iZ w)), (6, .int (iZ y)), (5, .int (iZ x2)), (0, .ref (am 1 0)), (1, .ref (am 5 lh)), (2, .ref (am 8 t)), (3, .int (iZ v)), (4, .int (iZ b))] := by rw [e_x2, e_w]; exact hl
            obtain ⟨S2, e_S2⟩ : ∃ z, z = S1 := ⟨_, rfl⟩
            rw [← e_S2] at hI
            replace hW : cW n S2 := by rw [e_S2]; exact hW
            have h1b : 0 ≤ w ∧ w ≤ (n 5 : Int) := by omega
            have h5 : cEq n S S2 := by rw [e_S2]; exact h2
            have h6 : cB (yV n S Z) (t : Int) 1 b (fun d => mEx2 d (yV n S Z) (t : Int) y w) x2 := by rw [e_x2, e_w]; exact h3.mono (fun d q => mEx2_0.mp q)
            have h7 : 0 ≤ x2 ∧ x2 ≤ 5 := by omega
            obtain ⟨k50, hk50⟩ : ∃ k : Nat, (n 5 : Int) - w < (k : Int) := ⟨((n 5 : Int) - w).toNat + 1, by omega⟩
            clear e_x2 e_w e_S2
            induction k50 generalizing x2 w S2 H locs ls with
            | zero => omega
            | succ k50 ih50 =>
              refine lv_iload hx hb dX4_bestOfOrders_50 (lv_at hl 0 rfl) ?_
              refine lv_aload_n hx hb dX4_bestOfOrders_52 rfl (lv_at hl 3 rfl) ?_
              refine zg_i (κ := 1) (i := 0) (k := 1) hx hb LX3 hown hK hI hW.1.2.1 rfl rfl (by decide) rfl f55 (fun _ h9 => h9) dX4_bestOfOrders_53 rfl (fun b9 => ?_)
              have hcn2 := hW.cn
              refine z_icmp_ge (tgt := 105) hx hb dX4_bestOfOrders_56 (by decide) (by omega) (by omega) (fun c10 => ?_) (fun c10 => ?_)
              · skip
                refine z_iinc (k := 1) (lv' := [(6, .int (iZ (y + 1))), (7, .int (iZ w)), (5, .int (iZ x2)), (0, .ref (am 1 0)), (1, .ref (am 5 lh)), (2, .ref (am 8 t)), (3, .int (iZ v)), (4, .int (iZ b))]) hx hb dX4_bestOfOrders_105 hl rfl (by decide) rfl (fun ls hl => ?_)
                refine lv_goto (tgt := 38) hx hb dX4_bestOfOrders_108 (by decide) ?_
                exact ih38 (x := x2) (y := (y + 1)) (S1 := S2) (h1 := by omega) (h2 := by exact h5) (h3 := by exact h6.mono (fun d q => mEx_un (by rw [yV_lanes]; omega) q)) (h4 := by omega) (hW := hW) (hk38 := by omega) (hI := hI) (hl := lv_sub hl [0, 2, 3, 4, 5, 6, 7] rfl)
              · skip
                have hIv2 := hIv.eq h5
                have hh2 : S2 8 t 7 = (lh : Int) := (h5.1 8 t 7 (by decide)).trans hh
                have h02 : ¬ yBefore S2 lh t = 0 := by rw [h5.before]; exact hah0
                have hcn2 := hW.cn
                refine lv_aload_n hx hb dX4_bestOfOrders_59 rfl (lv_at hl 3 rfl) ?_
                refine lv_iload hx hb dX4_bestOfOrders_60 (lv_at hl 1 rfl) ?_
                refine lv_iload hx hb dX4_bestOfOrders_62 (lv_at hl 0 rfl) ?_
                refine zc_i (zrV (As := [.int (iZ y), .int (iZ w)]) (rest := []) (κ := 1) (i := 0) ⟨hx, hb, hml, hown, hts⟩ (c_X3_allowMove l D cA n am S2 H.size y w hW (by omega) (by omega)) (cwV 2 hts gX4_bestOfOrders_X3_allowMove rfl rfl rfl (by decide +kernel) ⟨Nat.le_of_ble_eq_true rfl, Nat.le_of_ble_eq_true rfl⟩) hK hI hW.1.2.1 rfl rfl rfl hl.1 rfl (Nat.le_of_ble_eq_true rfl) dX4_bestOfOrders_64 ⟨Nat.le_of_ble_eq_true rfl, Nat.le_of_ble_eq_true rfl⟩) hI (fun z11 u9 H locs hz12 hp13 hI hfr => ?_)
                clear hfr
                obtain ⟨rfl, rfl⟩ := hp13
                refine z_if_eq (tgt := 99) hx hb dX4_bestOfOrders_67 (by decide) (by omega) (fun c14 => ?_) (fun c14 => ?_)
                · skip
                  have c14 := zB_0 c14
                  refine z_iinc (k := 0) (lv' := [(7, .int (iZ (w + 1))), (6, .int (iZ y)), (5, .int (iZ x2)), (0, .ref (am 1 0)), (1, .ref (am 5 lh)), (2, .ref (am 8 t)), (3, .int (iZ v)), (4, .int (iZ b))]) hx hb dX4_bestOfOrders_99 hl rfl (by decide) rfl (fun ls hl => ?_)
                  refine lv_goto (tgt := 50) hx hb dX4_bestOfOrders_102 (by decide) ?_
                  exact ih50 (x2 := x2) (w := (w + 1)) (S2 := S2) (h1b := by omega) (h5 := by exact h5) (h6 := by exact cB_n hIv h5 hh (by omega) (by omega) hah0 c14 h6) (h7 := by omega) (hW := hW) (hk50 := by omega) (hI := hI) (hl := lv_sub hl [0, 1, 2, 3, 4, 5, 6, 7] rfl)
                · skip
                  have c14 := zB_1 c14
                  refine lv_aload_n hx hb dX4_bestOfOrders_70 rfl (lv_at hl 3 rfl) ?_
                  refine lv_iload hx hb dX4_bestOfOrders_71 (lv_at hl 1 rfl) ?_
                  refine lv_iload hx hb dX4_bestOfOrders_73 (lv_at hl 0 rfl) ?_
                  refine zc_v (zrV (As := [.int (iZ y), .int (iZ w)]) (rest := []) (κ := 1) (i := 0) ⟨hx, hb, hml, hown, hts⟩ (c_X3_moveNearest l D cA n am S2 H.size y w hW (by omega) (by omega)) (cwV 2 hts gX4_bestOfOrders_X3_moveNearest rfl rfl rfl (by decide +kernel) ⟨Nat.le_of_ble_eq_true rfl, Nat.le_of_ble_eq_true rfl⟩) hK hI hW.1.2.1 rfl rfl rfl hl.1 rfl (Nat.le_of_ble_eq_true rfl) dX4_bestOfOrders_75 ⟨Nat.le_of_ble_eq_true rfl, Nat.le_of_ble_eq_true rfl⟩) hI (fun u9 H locs hp15 hI hfr => ?_)
                  clear hfr
                  obtain rfl := hp15
                  obtain ⟨S16, eS16⟩ : ∃ z, z = yMove S2 y w := ⟨_, rfl⟩
                  rw [← eS16] at hI
                  have hW : cW n S16 := by rw [eS16]; exact yMove_W hW
                  obtain ⟨hIv3, hh3, -⟩ := hIv2.mv hh2 (a := y) (b := w) (by omega) (by omega) h02 c14
                  rw [← eS16] at hIv3 hh3
                  refine lv_aload_n hx hb dX4_bestOfOrders_78 rfl (lv_at hl 3 rfl) ?_
                  refine lv_aload_n hx hb dX4_bestOfOrders_79 rfl (lv_at hl 4 rfl) ?_
                  refine lv_aload_n hx hb dX4_bestOfOrders_80 rfl (lv_at hl 5 rfl) ?_
                  refine lv_iload_n hx hb dX4_bestOfOrders_81 rfl (lv_at hl 6 rfl) ?_
                  refine z_iconst hx hb dX4_bestOfOrders_82 ?_
                  refine z_iadd hx hb dX4_bestOfOrders_83 ?_
                  refine lv_iload hx hb dX4_bestOfOrders_84 (lv_at hl 2 rfl) ?_
                  refine zc_i (zrS (As := [.ref (am 1 0), .ref (am 5 lh), .ref (am 8 t), .int (iZ (v + 1)), .int (iZ x2)]) (rest := []) ⟨hx, hb, hml, hown, hts⟩ (c_X4_bestOfOrders_2 l D cA n am S16 H.size lh t (v + 1) x2 Z hW hl0 ht hIv3 hh3 (by omega) (by omega)) (va_cwS 5 hts gX4_bestOfOrders_X4_bestOfOrders rfl rfl rfl (by decide +kernel) ⟨Nat.le_of_ble_eq_true rfl, Nat.le_of_ble_eq_true rfl⟩) hK hI rfl hl.1 rfl (Nat.le_of_ble_eq_true rfl) dX4_bestOfOrders_86 ⟨Nat.le_of_ble_eq_true rfl, Nat.le_of_ble_eq_true rfl⟩) hI (fun z17 u9 H locs hz18 hp19 hI hfr => ?_)
                  clear hfr
                  obtain ⟨S20, rfl, hS20, hb21⟩ := hp19
                  have hW : cW n S20 := hS20.W hW
                  refine lv_istore (lv' := [(5, .int (iZ z17)), (7, .int (iZ w)), (6, .int (iZ y)), (0, .ref (am 1 0)), (1, .ref (am 5 lh)), (2, .ref (am 8 t)), (3, .int (iZ v)), (4, .int (iZ b))]) hx hb dX4_bestOfOrders_89 hl (by decide) rfl (fun ls hl => ?_)
                  have hbr := hb21.1
                  refine lv_aload_n hx hb dX4_bestOfOrders_91 rfl (lv_at hl 3 rfl) ?_
                  refine lv_iload hx hb dX4_bestOfOrders_92 (lv_at hl 1 rfl) ?_
                  refine lv_iload hx hb dX4_bestOfOrders_94 (lv_at hl 2 rfl) ?_
                  refine zc_v (zrV (As := [.int (iZ w), .int (iZ y)]) (rest := []) (κ := 1) (i := 0) ⟨hx, hb, hml, hown, hts⟩ (c_X3_moveNearest l D cA n am S20 H.size w y hW (by omega) (by omega)) (cwV 2 hts gX4_bestOfOrders_X3_moveNearest rfl rfl rfl (by decide +kernel) ⟨Nat.le_of_ble_eq_true rfl, Nat.le_of_ble_eq_true rfl⟩) hK hI hW.1.2.1 rfl rfl rfl hl.1 rfl (Nat.le_of_ble_eq_true rfl) dX4_bestOfOrders_96 ⟨Nat.le_of_ble_eq_true rfl, Nat.le_of_ble_eq_true rfl⟩) hI (fun u9 H locs hp22 hI hfr => ?_)
                  clear hfr
                  obtain rfl := hp22
                  obtain ⟨S23, eS23⟩ : ∃ z, z = yMove S20 w y := ⟨_, rfl⟩
                  rw [← eS23] at hI
                  have hW : cW n S23 := by rw [eS23]; exact yMove_W hW
                  refine z_iinc (k := 1) (lv' := [(7, .int (iZ (w + 1))), (5, .int (iZ z17)), (6, .int (iZ y)), (0, .ref (am 1 0)), (1, .ref (am 5 lh)), (2, .ref (am 8 t)), (3, .int (iZ v)), (4, .int (iZ b))]) hx hb dX4_bestOfOrders_99 hl rfl (by decide) rfl (fun ls hl => ?_)
                  refine lv_goto (tgt := 50) hx hb dX4_bestOfOrders_102 (by decide) ?_
                  exact ih50 (x2 := z17) (w := (w + 1)) (S2 := S23) (h1b := by omega) (h5 := by rw [eS23]; exact h5.trans (yBack hIv2.1 hIv2.2.2.1 (by omega) (by omega) c14 (by rw [← eS16]; exact hS20))) (h6 := by exact cB_s hIv h5 hh (by omega) (by omega) hah0 c14 h6 (by rw [← eS16]; exact hb21.2)) (h7 := by omega) (hW := hW) (hk50 := by omega) (hI := hI) (hl := lv_sub hl [0, 2, 1, 3, 4, 5, 6, 7] rfl)
      · skip
        refine lv_iload hx hb dX4_bestOfOrders_28 (lv_at hl 4 rfl) ?_
        exact (ze_i (u' := (n, am, S)) (z := b) hx hb hr rfl hI (by omega) ⟨S, rfl, cEq.rfl' n S, (by omega), cBest_b hIv hh hah0 (by omega)⟩ (Nat.le_of_ble_eq_true rfl) (Nat.le_of_ble_eq_true rfl) dX4_bestOfOrders_30 hlocks)
  · skip
    refine lv_iload_n hx hb dX4_bestOfOrders_8 rfl (lv_at hl 3 rfl) ?_
    refine lv_iload hx hb dX4_bestOfOrders_9 (lv_at hl 4 rfl) ?_
    refine z_min hx hb (by rw [hml]; exact hl.1.symm) hown (hts _ (by decide +kernel)) (hts _ (by decide +kernel)) (hts _ (by decide +kernel)) (hts _ (by decide +kernel)) (Nat.le_of_ble_eq_true rfl) (Nat.le_of_ble_eq_true rfl) (Nat.le_of_ble_eq_true rfl) (Nat.le_of_ble_eq_true rfl) (by omega) (by omega) dX4_bestOfOrders_11 ?_
    exact (ze_i (u' := (n, am, S)) (z := (min v b)) hx hb hr rfl hI (by omega) ⟨S, rfl, cEq.rfl' n S, (by omega), by rw [show v = 1 by omega]; exact cBest_0 hIv hh c4⟩ (Nat.le_of_ble_eq_true rfl) (Nat.le_of_ble_eq_true rfl) dX4_bestOfOrders_14 hlocks)
set_option maxHeartbeats 4000000 in
set_option maxRecDepth 100000 in
theorem c_X4_bestOfOrders_0 (l : Launch) (D : va_G) (cA : Nat → ClassId) (n : Nat → Nat) (am : ts_Am) (S : ts_St) (sz : Nat) (lh t : Nat) (v b : Int) (Z : ts_St) (hW : cW n S) (hl0 : lh < n 5) (ht : t < n 8) (hIv : cIv n S Z t) (hh : S 8 t 7 = (lh : Int)) (hv : v = 0) (hb0 : 0 ≤ b ∧ b ≤ 5) : Met l yX4_bestOfOrders wsX4_bestOfOrders ({ frames := 6, cells := 0, slots := 0, locals := 148 } : Room) (va_Pc [.ref (am 1 0), .ref (am 5 lh), .ref (am 8 t), .int (iZ v), .int (iZ b)] (zP TX D cA (n, am, S) sz)) (zQi TX D cA (n, am, S) sz (fun z u => ∃ S9, u = (n, am, S9) ∧ cEq n S S9 ∧ (0 ≤ z ∧ z ≤ 5) ∧ cBest (yV n S Z) (t : Int) 0 b z)) 0 0 (ts_A (n, am, S) sz) := by
  refine zM_of (by decide) rfl (Nat.le_of_ble_eq_true rfl) ?_
  intro p e s m below meth c hx hb hr hts hown hlocks hml hname hK hsz H locs hI ls hl
  subst hsz
  have hown : s.vm.findClass RX4 = some m.cls := hown
  have hl : lv_has ls 8 [(0, .ref (am 1 0)), (1, .ref (am 5 lh)), (2, .ref (am 8 t)), (3, .int (iZ v)), (4, .int (iZ b))] := hl
  have f55 := hts (.fieldLink RX4 55 "DockyardSlots$LaneRow" "count" "I") (by decide +kernel)
  have LX3 : ∀ w ∈ wsX30, w.before [.ref (am 1 0), .ref (am 5 lh), .ref (am 8 t), .int (iZ v), .int (iZ b)].toArray s = true := fun w h => hts w (List.mem_cons_of_mem _ (List.mem_append_left _ (List.mem_append_left _ (List.mem_append_right _ h))))
  have hcn := hW.cn
  have hlim := hW.lim
  have hbR := hIv.bR hh
  refine lv_aload_n hx hb dX4_bestOfOrders_0 rfl (lv_at hl 1 rfl) ?_
  refine lv_aload_n hx hb dX4_bestOfOrders_1 rfl (lv_at hl 2 rfl) ?_
  refine zc_i (zrV (As := [.ref (am 8 t)]) (rest := []) (κ := 5) (i := lh) ⟨hx, hb, hml, hown, hts⟩ (c_X2_countBefore l D cA n am S H.size lh t hl0 ht) (cwV 1 hts gX4_bestOfOrders_X2_countBefore rfl rfl rfl (by decide +kernel) ⟨Nat.le_of_ble_eq_true rfl, Nat.le_of_ble_eq_true rfl⟩) hK hI hl0 rfl rfl rfl hl.1 rfl (Nat.le_of_ble_eq_true rfl) dX4_bestOfOrders_2 ⟨Nat.le_of_ble_eq_true rfl, Nat.le_of_ble_eq_true rfl⟩) hI (fun z1 u9 H locs hz2 hp3 hI hfr => ?_)
  clear hfr
  obtain ⟨rfl, rfl⟩ := hp3
  refine z_if_ne (tgt := 15) hx hb dX4_bestOfOrders_5 (by decide) (by omega) (fun c4 => ?_) (fun c4 => ?_)
  · skip
    have hah0 := c4
    refine lv_iload_n hx hb dX4_bestOfOrders_15 rfl (lv_at hl 3 rfl) ?_
    refine z_iconst hx hb dX4_bestOfOrders_16 ?_
    refine z_icmp_ge (tgt := 28) hx hb dX4_bestOfOrders_17 (by decide) (by omega) (by omega) (fun c5 => ?_) (fun c5 => ?_)
    · skip
      refine lv_iload hx hb dX4_bestOfOrders_28 (lv_at hl 4 rfl) ?_
      exact (ze_i (u' := (n, am, S)) (z := b) hx hb hr rfl hI (by omega) ⟨S, rfl, cEq.rfl' n S, (by omega), cBest_b hIv hh hah0 (by omega)⟩ (Nat.le_of_ble_eq_true rfl) (Nat.le_of_ble_eq_true rfl) dX4_bestOfOrders_30 hlocks)
    · skip
      refine lv_iload_n hx hb dX4_bestOfOrders_20 rfl (lv_at hl 3 rfl) ?_
      refine z_iconst hx hb dX4_bestOfOrders_21 ?_
      refine z_iadd hx hb dX4_bestOfOrders_22 ?_
      refine lv_iload hx hb dX4_bestOfOrders_23 (lv_at hl 4 rfl) ?_
      refine z_icmp_lt (tgt := 31) hx hb dX4_bestOfOrders_25 (by decide) (by omega) (by omega) (fun c6 => ?_) (fun c6 => ?_)
      · skip
        refine lv_iload hx hb dX4_bestOfOrders_31 (lv_at hl 4 rfl) ?_
        refine lv_istore (lv' := [(5, .int (iZ b)), (0, .ref (am 1 0)), (1, .ref (am 5 lh)), (2, .ref (am 8 t)), (3, .int (iZ v)), (4, .int (iZ b))]) hx hb dX4_bestOfOrders_33 hl (by decide) rfl (fun ls hl => ?_)
        refine z_iconst hx hb dX4_bestOfOrders_35 ?_
        refine lv_istore (lv' := [(6, .int (iZ 0)), (5, .int (iZ b)), (0, .ref (am 1 0)), (1, .ref (am 5 lh)), (2, .ref (am 8 t)), (3, .int (iZ v)), (4, .int (iZ b))]) hx hb dX4_bestOfOrders_36 hl (by decide) rfl (fun ls hl => ?_)
        obtain ⟨x, e_x⟩ : ∃ z : Int, z = b := ⟨_, rfl⟩
        obtain ⟨y, e_y⟩ : ∃ z : Int, z = 0 := ⟨_, rfl⟩
        replace hl : lv_has ls 8 [(6, .int (iZ y)), (5, .int (iZ x)), (0, .ref (am 1 0)), (1, .ref (am 5 lh)), (2, .ref (am 8 t)), (3, .int (iZ v)), (4, .int (iZ b))] := by rw [e_x, e_y]; exact hl
        obtain ⟨S1, e_S1⟩ : ∃ z, z = S := ⟨_, rfl⟩
        rw [← e_S1] at hI
        replace hW : cW n S1 := by rw [e_S1]; exact hW
        have h1 : 0 ≤ y ∧ y ≤ (n 5 : Int) := by omega
        have h2 : cEq n S S1 := by rw [e_S1]; exact cEq.rfl' n S
        have h3 : cB (yV n S Z) (t : Int) 0 b (fun d => mEx d (yV n S Z) (t : Int) y) x := by rw [e_x, e_y]; exact cB_0 (fun d => mEx_0)
        have h4 : 0 ≤ x ∧ x ≤ 5 := by omega
        obtain ⟨k38, hk38⟩ : ∃ k : Nat, (n 5 : Int) - y < (k : Int) := ⟨((n 5 : Int) - y).toNat + 1, by omega⟩
        clear e_x e_y e_S1
        induction k38 generalizing x y S1 H locs ls with
        | zero => omega
        | succ k38 ih38 =>
          refine lv_iload hx hb dX4_bestOfOrders_38 (lv_at hl 0 rfl) ?_
          refine lv_aload_n hx hb dX4_bestOfOrders_40 rfl (lv_at hl 2 rfl) ?_
          refine zg_i (κ := 1) (i := 0) (k := 1) hx hb LX3 hown hK hI hW.1.2.1 rfl rfl (by decide) rfl f55 (fun _ h9 => h9) dX4_bestOfOrders_41 rfl (fun b7 => ?_)
          have hcn1 := hW.cn
          refine z_icmp_ge (tgt := 111) hx hb dX4_bestOfOrders_44 (by decide) (by omega) (by omega) (fun c8 => ?_) (fun c8 => ?_)
          · skip
            refine lv_iload hx hb dX4_bestOfOrders_111 (lv_at hl 1 rfl) ?_
            exact (ze_i (u' := (n, am, S1)) (z := x) hx hb hr rfl hI (by omega) ⟨S1, rfl, h2, (by omega), cB_end hIv hh hah0 (by omega) h3⟩ (Nat.le_of_ble_eq_true rfl) (Nat.le_of_ble_eq_true rfl) dX4_bestOfOrders_113 hlocks)
          · skip
            refine z_iconst hx hb dX4_bestOfOrders_47 ?_
            refine lv_istore (lv' := [(7, .int (iZ 0)), (6, .int (iZ y)), (5, .int (iZ x)), (0, .ref (am 1 0)), (1, .ref (am 5 lh)), (2, .ref (am 8 t)), (3, .int (iZ v)), (4, .int (iZ b))]) hx hb dX4_bestOfOrders_48 hl (by decide) rfl (fun ls hl => ?_)
            obtain ⟨x2, e_x2⟩ : ∃ z : Int, z = x := ⟨_, rfl⟩
            obtain ⟨w, e_w⟩ : ∃ z : Int, z = 0 := ⟨_, rfl⟩
            replace hl : lv_has ls 8 [(7, .int (iZ w)), (6, .int (iZ y)), (5, .int (iZ x2)), (0, .ref (am 1 0)), (1, .ref (am 5 lh)), (2, .ref (am 8 t)), (3, .int (iZ v)), (4, .int (iZ b))] := by rw [e_x2, e_w]; exact hl
            obtain ⟨S2, e_S2⟩ : ∃ z, z = S1 := ⟨_, rfl⟩
            rw [← e_S2] at hI
            replace hW : cW n S2 := by rw [e_S2]; exact hW
            have h1b : 0 ≤ w ∧ w ≤ (n 5 : Int) := by omega
            have h5 : cEq n S S2 := by rw [e_S2]; exact h2
            have h6 : cB (yV n S Z) (t : Int) 0 b (fun d => mEx2 d (yV n S Z) (t : Int) y w) x2 := by rw [e_x2, e_w]; exact h3.mono (fun d q => mEx2_0.mp q)
            have h7 : 0 ≤ x2 ∧ x2 ≤ 5 := by omega
            obtain ⟨k50, hk50⟩ : ∃ k : Nat, (n 5 : Int) - w < (k : Int) := ⟨((n 5 : Int) - w).toNat + 1, by omega⟩
            clear e_x2 e_w e_S2
            induction k50 generalizing x2 w S2 H locs ls with
            | zero => omega
            | succ k50 ih50 =>
              refine lv_iload hx hb dX4_bestOfOrders_50 (lv_at hl 0 rfl) ?_
              refine lv_aload_n hx hb dX4_bestOfOrders_52 rfl (lv_at hl 3 rfl) ?_
              refine zg_i (κ := 1) (i := 0) (k := 1) hx hb LX3 hown hK hI hW.1.2.1 rfl rfl (by decide) rfl f55 (fun _ h9 => h9) dX4_bestOfOrders_53 rfl (fun b9 => ?_)
              have hcn2 := hW.cn
              refine z_icmp_ge (tgt := 105) hx hb dX4_bestOfOrders_56 (by decide) (by omega) (by omega) (fun c10 => ?_) (fun c10 => ?_)
              · skip
                refine z_iinc (k := 1) (lv' := [(6, .int (iZ (y + 1))), (7, .int (iZ w)), (5, .int (iZ x2)), (0, .ref (am 1 0)), (1, .ref (am 5 lh)), (2, .ref (am 8 t)), (3, .int (iZ v)), (4, .int (iZ b))]) hx hb dX4_bestOfOrders_105 hl rfl (by decide) rfl (fun ls hl => ?_)
                refine lv_goto (tgt := 38) hx hb dX4_bestOfOrders_108 (by decide) ?_
                exact ih38 (x := x2) (y := (y + 1)) (S1 := S2) (h1 := by omega) (h2 := by exact h5) (h3 := by exact h6.mono (fun d q => mEx_un (by rw [yV_lanes]; omega) q)) (h4 := by omega) (hW := hW) (hk38 := by omega) (hI := hI) (hl := lv_sub hl [0, 2, 3, 4, 5, 6, 7] rfl)
              · skip
                have hIv2 := hIv.eq h5
                have hh2 : S2 8 t 7 = (lh : Int) := (h5.1 8 t 7 (by decide)).trans hh
                have h02 : ¬ yBefore S2 lh t = 0 := by rw [h5.before]; exact hah0
                have hcn2 := hW.cn
                refine lv_aload_n hx hb dX4_bestOfOrders_59 rfl (lv_at hl 3 rfl) ?_
                refine lv_iload hx hb dX4_bestOfOrders_60 (lv_at hl 1 rfl) ?_
                refine lv_iload hx hb dX4_bestOfOrders_62 (lv_at hl 0 rfl) ?_
                refine zc_i (zrV (As := [.int (iZ y), .int (iZ w)]) (rest := []) (κ := 1) (i := 0) ⟨hx, hb, hml, hown, hts⟩ (c_X3_allowMove l D cA n am S2 H.size y w hW (by omega) (by omega)) (cwV 2 hts gX4_bestOfOrders_X3_allowMove rfl rfl rfl (by decide +kernel) ⟨Nat.le_of_ble_eq_true rfl, Nat.le_of_ble_eq_true rfl⟩) hK hI hW.1.2.1 rfl rfl rfl hl.1 rfl (Nat.le_of_ble_eq_true rfl) dX4_bestOfOrders_64 ⟨Nat.le_of_ble_eq_true rfl, Nat.le_of_ble_eq_true rfl⟩) hI (fun z11 u9 H locs hz12 hp13 hI hfr => ?_)
                clear hfr
                obtain ⟨rfl, rfl⟩ := hp13
                refine z_if_eq (tgt := 99) hx hb dX4_bestOfOrders_67 (by decide) (by omega) (fun c14 => ?_) (fun c14 => ?_)
                · skip
                  have c14 := zB_0 c14
                  refine z_iinc (k := 0) (lv' := [(7, .int (iZ (w + 1))), (6, .int (iZ y)), (5, .int (iZ x2)), (0, .ref (am 1 0)), (1, .ref (am 5 lh)), (2, .ref (am 8 t)), (3, .int (iZ v)), (4, .int (iZ b))]) hx hb dX4_bestOfOrders_99 hl rfl (by decide) rfl (fun ls hl => ?_)
                  refine lv_goto (tgt := 50) hx hb dX4_bestOfOrders_102 (by decide) ?_
                  exact ih50 (x2 := x2) (w := (w + 1)) (S2 := S2) (h1b := by omega) (h5 := by exact h5) (h6 := by exact cB_n hIv h5 hh (by omega) (by omega) hah0 c14 h6) (h7 := by omega) (hW := hW) (hk50 := by omega) (hI := hI) (hl := lv_sub hl [0, 1, 2, 3, 4, 5, 6, 7] rfl)
                · skip
                  have c14 := zB_1 c14
                  refine lv_aload_n hx hb dX4_bestOfOrders_70 rfl (lv_at hl 3 rfl) ?_
                  refine lv_iload hx hb dX4_bestOfOrders_71 (lv_at hl 1 rfl) ?_
                  refine lv_iload hx hb dX4_bestOfOrders_73 (lv_at hl 0 rfl) ?_
                  refine zc_v (zrV (As := [.int (iZ y), .int (iZ w)]) (rest := []) (κ := 1) (i := 0) ⟨hx, hb, hml, hown, hts⟩ (c_X3_moveNearest l D cA n am S2 H.size y w hW (by omega) (by omega)) (cwV 2 hts gX4_bestOfOrders_X3_moveNearest rfl rfl rfl (by decide +kernel) ⟨Nat.le_of_ble_eq_true rfl, Nat.le_of_ble_eq_true rfl⟩) hK hI hW.1.2.1 rfl rfl rfl hl.1 rfl (Nat.le_of_ble_eq_true rfl) dX4_bestOfOrders_75 ⟨Nat.le_of_ble_eq_true rfl, Nat.le_of_ble_eq_true rfl⟩) hI (fun u9 H locs hp15 hI hfr => ?_)
                  clear hfr
                  obtain rfl := hp15
                  obtain ⟨S16, eS16⟩ : ∃ z, z = yMove S2 y w := ⟨_, rfl⟩
                  rw [← eS16] at hI
                  have hW : cW n S16 := by rw [eS16]; exact yMove_W hW
                  obtain ⟨hIv3, hh3, -⟩ := hIv2.mv hh2 (a := y) (b := w) (by omega) (by omega) h02 c14
                  rw [← eS16] at hIv3 hh3
                  refine lv_aload_n hx hb dX4_bestOfOrders_78 rfl (lv_at hl 3 rfl) ?_
                  refine lv_aload_n hx hb dX4_bestOfOrders_79 rfl (lv_at hl 4 rfl) ?_
                  refine lv_aload_n hx hb dX4_bestOfOrders_80 rfl (lv_at hl 5 rfl) ?_
                  refine lv_iload_n hx hb dX4_bestOfOrders_81 rfl (lv_at hl 6 rfl) ?_
                  refine z_iconst hx hb dX4_bestOfOrders_82 ?_
                  refine z_iadd hx hb dX4_bestOfOrders_83 ?_
                  refine lv_iload hx hb dX4_bestOfOrders_84 (lv_at hl 2 rfl) ?_
                  refine zc_i (zrS (As := [.ref (am 1 0), .ref (am 5 lh), .ref (am 8 t), .int (iZ (v + 1)), .int (iZ x2)]) (rest := []) ⟨hx, hb, hml, hown, hts⟩ (c_X4_bestOfOrders_1 l D cA n am S16 H.size lh t (v + 1) x2 Z hW hl0 ht hIv3 hh3 (by omega) (by omega)) (va_cwS 5 hts gX4_bestOfOrders_X4_bestOfOrders rfl rfl rfl (by decide +kernel) ⟨Nat.le_of_ble_eq_true rfl, Nat.le_of_ble_eq_true rfl⟩) hK hI rfl hl.1 rfl (Nat.le_of_ble_eq_true rfl) dX4_bestOfOrders_86 ⟨Nat.le_of_ble_eq_true rfl, Nat.le_of_ble_eq_true rfl⟩) hI (fun z17 u9 H locs hz18 hp19 hI hfr => ?_)
                  clear hfr
                  obtain ⟨S20, rfl, hS20, hb21⟩ := hp19
                  have hW : cW n S20 := hS20.W hW
                  refine lv_istore (lv' := [(5, .int (iZ z17)), (7, .int (iZ w)), (6, .int (iZ y)), (0, .ref (am 1 0)), (1, .ref (am 5 lh)), (2, .ref (am 8 t)), (3, .int (iZ v)), (4, .int (iZ b))]) hx hb dX4_bestOfOrders_89 hl (by decide) rfl (fun ls hl => ?_)
                  have hbr := hb21.1
                  refine lv_aload_n hx hb dX4_bestOfOrders_91 rfl (lv_at hl 3 rfl) ?_
                  refine lv_iload hx hb dX4_bestOfOrders_92 (lv_at hl 1 rfl) ?_
                  refine lv_iload hx hb dX4_bestOfOrders_94 (lv_at hl 2 rfl) ?_
                  refine zc_v (zrV (As := [.int (iZ w), .int (iZ y)]) (rest := []) (κ := 1) (i := 0) ⟨hx, hb, hml, hown, hts⟩ (c_X3_moveNearest l D cA n am S20 H.size w y hW (by omega) (by omega)) (cwV 2 hts gX4_bestOfOrders_X3_moveNearest rfl rfl rfl (by decide +kernel) ⟨Nat.le_of_ble_eq_true rfl, Nat.le_of_ble_eq_true rfl⟩) hK hI hW.1.2.1 rfl rfl rfl hl.1 rfl (Nat.le_of_ble_eq_true rfl) dX4_bestOfOrders_96 ⟨Nat.le_of_ble_eq_true rfl, Nat.le_of_ble_eq_true rfl⟩) hI (fun u9 H locs hp22 hI hfr => ?_)
                  clear hfr
                  obtain rfl := hp22
                  obtain ⟨S23, eS23⟩ : ∃ z, z = yMove S20 w y := ⟨_, rfl⟩
                  rw [← eS23] at hI
                  have hW : cW n S23 := by rw [eS23]; exact yMove_W hW
                  refine z_iinc (k := 1) (lv' := [(7, .int (iZ (w + 1))), (5, .int (iZ z17)), (6, .int (iZ y)), (0, .ref (am 1 0)), (1, .ref (am 5 lh)), (2, .ref (am 8 t)), (3, .int (iZ v)), (4, .int (iZ b))]) hx hb dX4_bestOfOrders_99 hl rfl (by decide) rfl (fun ls hl => ?_)
                  refine lv_goto (tgt := 50) hx hb dX4_bestOfOrders_102 (by decide) ?_
                  exact ih50 (x2 := z17) (w := (w + 1)) (S2 := S23) (h1b := by omega) (h5 := by rw [eS23]; exact h5.trans (yBack hIv2.1 hIv2.2.2.1 (by omega) (by omega) c14 (by rw [← eS16]; exact hS20))) (h6 := by exact cB_s hIv h5 hh (by omega) (by omega) hah0 c14 h6 (by rw [← eS16]; exact hb21.2)) (h7 := by omega) (hW := hW) (hk50 := by omega) (hI := hI) (hl := lv_sub hl [0, 2, 1, 3, 4, 5, 6, 7] rfl)
      · skip
        refine lv_iload hx hb dX4_bestOfOrders_28 (lv_at hl 4 rfl) ?_
        exact (ze_i (u' := (n, am, S)) (z := b) hx hb hr rfl hI (by omega) ⟨S, rfl, cEq.rfl' n S, (by omega), cBest_b hIv hh hah0 (by omega)⟩ (Nat.le_of_ble_eq_true rfl) (Nat.le_of_ble_eq_true rfl) dX4_bestOfOrders_30 hlocks)
  · skip
    refine lv_iload_n hx hb dX4_bestOfOrders_8 rfl (lv_at hl 3 rfl) ?_
    refine lv_iload hx hb dX4_bestOfOrders_9 (lv_at hl 4 rfl) ?_
    refine z_min hx hb (by rw [hml]; exact hl.1.symm) hown (hts _ (by decide +kernel)) (hts _ (by decide +kernel)) (hts _ (by decide +kernel)) (hts _ (by decide +kernel)) (Nat.le_of_ble_eq_true rfl) (Nat.le_of_ble_eq_true rfl) (Nat.le_of_ble_eq_true rfl) (Nat.le_of_ble_eq_true rfl) (by omega) (by omega) dX4_bestOfOrders_11 ?_
    exact (ze_i (u' := (n, am, S)) (z := (min v b)) hx hb hr rfl hI (by omega) ⟨S, rfl, cEq.rfl' n S, (by omega), by rw [show v = 0 by omega]; exact cBest_0 hIv hh c4⟩ (Nat.le_of_ble_eq_true rfl) (Nat.le_of_ble_eq_true rfl) dX4_bestOfOrders_14 hlocks)
