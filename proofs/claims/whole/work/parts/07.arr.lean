/-! Arrays of a typed store: loads, stores, lengths; new objects and arrays. -/
theorem ts_K_arr {tab : ts_Tab} {D : va_G} {cA : Nat → ClassId} {s : State} {κ len t : Nat} {ty : FieldType} (hK : ts_K tab D cA s) (htab : tab κ = .inr (len, t, ty)) : va_K D vwCl [(cA κ, ty)] s := by
  refine ⟨hK.1.1, fun k q hk => ?_⟩
  have hz : k < 1 := (List.getElem?_eq_some_iff.mp hk).1
  rw [show k = 0 by omega] at hk
  cases hk
  exact hK.2 κ _ htab
theorem ts_P_arr {tab : ts_Tab} {D : va_G} {cA : Nat → ClassId} {n : Nat → Nat} {am : ts_Am} {S : ts_St} {H : Heap} {κ i len t : Nat} {ty : FieldType} (h : ts_P tab D cA (n, am, S) H) (hi : i < n κ) (htab : tab κ = .inr (len, t, ty)) : va_P D vwCl [(am κ i, .inl (cA κ, len, ts_F am t (S κ i)))] H := fun j q hj => by
  have hz : j < 1 := (List.getElem?_eq_some_iff.mp hj).1
  rw [show j = 0 by omega] at hj
  cases hj
  have h1 := h.1 κ i hi
  dsimp only at h1
  rw [ts_E_arr htab] at h1
  exact h1
section TAR
variable {p : Program} {l : Launch} {e : Env} {R : Room} {s : State} {m : MethodId} {args : Array Value} {below : List Frame} {meth : Method} {c : Code} {H : Heap} {locs : List Loc} {cells slots : Nat} {Q : State → Prop} {cc : ByteArray} {pc : Nat} {ls : Array Slot} {rest : List Value}
variable {tab : ts_Tab} {D : va_G} {cA : Nat → ClassId} {A : Nat → Prop} {H0 : Heap} {n : Nat → Nat} {am : ts_Am} {S : ts_St} {κ i len : Nat}
theorem zal {t : Nat} {ty : FieldType} (hexec : p.tables.exec = Jvm.exec) (hb : c.code = cc) (hK : ts_K tab D cA s) (hI : ts_I tab D cA A H0 (n, am, S) H locs) (hi : i < n κ) (htab : tab κ = .inr (len, t, ty)) (hdg : decode cc pc = .ok (.arraylength, 1))
    (kk : W p l e R s m args below meth c H locs cells slots Q (F0 m (pc + 1) ls (.int (iZ (len : Int)) :: rest))) : W p l e R s m args below meth c H locs cells slots Q (F0 m pc ls (.ref (am κ i) :: rest)) :=
  va_alen hexec hb (ts_K_arr hK htab) (ts_P_arr hI.1 hi htab) 0 0 rfl rfl (v := iZ (len : Int)) ((iZ_nI len).symm) hdg kk
theorem za_i {j z : Int} (hexec : p.tables.exec = Jvm.exec) (hb : c.code = cc) (hK : ts_K tab D cA s) (hI : ts_I tab D cA A H0 (n, am, S) H locs) (hi : i < n κ) (htab : tab κ = .inr (len, 0, .int)) (h0 : 0 ≤ j) (hj : j < (len : Int)) (hR : iR j) (hdg : decode cc pc = .ok (.iaload, 1)) (hz : S κ i j.toNat = z)
    (kk : ts_bd z → W p l e R s m args below meth c H locs cells slots Q (F0 m (pc + 1) ls (.int (iZ z) :: rest))) : W p l e R s m args below meth c H locs cells slots Q (F0 m pc ls (.int (iZ j) :: .ref (am κ i) :: rest)) := by
  refine va_iald (f := fun j => iZ (S κ i j)) hexec hb (ts_K_arr hK htab) (ts_P_arr hI.1 hi htab) 0 0 rfl rfl (iZ_in h0 hj hR) hdg ?_
  rw [iZ_cl hR]
  subst hz
  exact kk (hI.1.2.2.1 κ i j.toNat)
theorem za_c {j z : Int} (hexec : p.tables.exec = Jvm.exec) (hb : c.code = cc) (hK : ts_K tab D cA s) (hI : ts_I tab D cA A H0 (n, am, S) H locs) (hi : i < n κ) (htab : tab κ = .inr (len, 0, .char)) (h0 : 0 ≤ j) (hj : j < (len : Int)) (hR : iR j) (hdg : decode cc pc = .ok (.caload, 1)) (hz : S κ i j.toNat = z)
    (kk : ts_bd z → W p l e R s m args below meth c H locs cells slots Q (F0 m (pc + 1) ls (.int (iZ z) :: rest))) : W p l e R s m args below meth c H locs cells slots Q (F0 m pc ls (.int (iZ j) :: .ref (am κ i) :: rest)) := by
  refine va_cald (f := fun j => iZ (S κ i j)) hexec hb (ts_K_arr hK htab) (ts_P_arr hI.1 hi htab) 0 0 rfl rfl (iZ_in h0 hj hR) hdg ?_
  rw [iZ_cl hR]
  subst hz
  exact kk (hI.1.2.2.1 κ i j.toNat)
theorem za_z {j z : Int} (hexec : p.tables.exec = Jvm.exec) (hb : c.code = cc) (hK : ts_K tab D cA s) (hI : ts_I tab D cA A H0 (n, am, S) H locs) (hi : i < n κ) (htab : tab κ = .inr (len, 0, .boolean)) (h0 : 0 ≤ j) (hj : j < (len : Int)) (hR : iR j) (hdg : decode cc pc = .ok (.baload, 1)) (hz : S κ i j.toNat = z)
    (kk : ts_bd z → W p l e R s m args below meth c H locs cells slots Q (F0 m (pc + 1) ls (.int (iZ z) :: rest))) : W p l e R s m args below meth c H locs cells slots Q (F0 m pc ls (.int (iZ j) :: .ref (am κ i) :: rest)) := by
  refine va_zald (f := fun j => iZ (S κ i j)) hexec hb (ts_K_arr hK htab) (ts_P_arr hI.1 hi htab) 0 0 rfl rfl (iZ_in h0 hj hR) hdg ?_
  rw [iZ_cl hR]
  subst hz
  exact kk (hI.1.2.2.1 κ i j.toNat)
theorem zs_i {j z : Int} (hexec : p.tables.exec = Jvm.exec) (hb : c.code = cc) (hK : ts_K tab D cA s) (hI : ts_I tab D cA A H0 (n, am, S) H locs) (hi : i < n κ) (htab : tab κ = .inr (len, 0, .int)) (h0 : 0 ≤ j) (hj : j < (len : Int)) (hR : iR j) (hz : ts_bd z) (hdg : decode cc pc = .ok (.iastore, 1))
    (kk : ∀ (H1 : Heap) (locs1 : List Loc), ts_I tab D cA A H0 (n, am, up3 S κ i j.toNat z) H1 locs1 → W p l e R s m args below meth c H1 locs1 cells slots Q (F0 m (pc + 1) ls rest)) : W p l e R s m args below meth c H locs cells slots Q (F0 m pc ls (.int (iZ z) :: .int (iZ j) :: .ref (am κ i) :: rest)) := by
  have hlt : j.toNat < len := by omega
  have hP := ts_P_arr hI.1 hi htab 0 _ rfl
  refine W.iast hexec hb hP (((ts_K_arr hK htab).2 0 _ rfl).1 len (fun j => .int (iZ (S κ i j)))) (fun q => by cases q) (by show ¬ (iZ j < 0 ∨ (arrV _ _ _).slots.size ≤ _); rw [arrV_size]; exact iZ_in h0 hj hR) rfl rfl hdg fun H1 e z1 oq => ?_
  refine kk H1 _ (hI.put hi ?_ z1 oq hz (fun t' q => ?_))
  · show va_at D vwCl (am κ i, ts_E tab cA am (up3 S κ i j.toNat z) κ i) H1
    rw [ts_E_arr htab]
    show H1[am κ i]? = some (vp_cell (cA κ) (len, .inl (fun k => iZ (up3 S κ i j.toNat z κ i k))))
    rw [e, vp_cell_i]
    show some ((vp_cell (cA κ) (len, .inl (fun k => iZ (S κ i k)))).setSlot _ _) = _
    rw [vp_cell_i, arrV_store, iZ_cl hR]
    congr 2
    funext q
    by_cases hq : q = j.toNat
    · subst hq
      simp only [updV, up3, and_self, if_true]
      rfl
    · simp [updV, up3, hq]
  · rw [ts_ty_arr htab hlt] at q
    cases q
theorem zs_c {j z : Int} (hexec : p.tables.exec = Jvm.exec) (hb : c.code = cc) (hK : ts_K tab D cA s) (hI : ts_I tab D cA A H0 (n, am, S) H locs) (hi : i < n κ) (htab : tab κ = .inr (len, 0, .char)) (h0 : 0 ≤ j) (hj : j < (len : Int)) (hR : iR j) (hz : ts_bd z) (hz0 : 0 ≤ z) (hz1 : z < 65536) (hdg : decode cc pc = .ok (.castore, 1))
    (kk : ∀ (H1 : Heap) (locs1 : List Loc), ts_I tab D cA A H0 (n, am, up3 S κ i j.toNat z) H1 locs1 → W p l e R s m args below meth c H1 locs1 cells slots Q (F0 m (pc + 1) ls rest)) : W p l e R s m args below meth c H locs cells slots Q (F0 m pc ls (.int (iZ z) :: .int (iZ j) :: .ref (am κ i) :: rest)) := by
  have hlt : j.toNat < len := by omega
  have hP := ts_P_arr hI.1 hi htab 0 _ rfl
  refine W.cast hexec hb hP (((ts_K_arr hK htab).2 0 _ rfl).1 len (fun j => .int (iZ (S κ i j)))) (fun q => by cases q) (by show ¬ (iZ j < 0 ∨ (arrV _ _ _).slots.size ≤ _); rw [arrV_size]; exact iZ_in h0 hj hR) rfl rfl hdg fun H1 e z1 oq => ?_
  refine kk H1 _ (hI.put hi ?_ z1 oq hz (fun t' q => ?_))
  · show va_at D vwCl (am κ i, ts_E tab cA am (up3 S κ i j.toNat z) κ i) H1
    rw [ts_E_arr htab]
    show H1[am κ i]? = some (vp_cell (cA κ) (len, .inl (fun k => iZ (up3 S κ i j.toNat z κ i k))))
    rw [e, vp_cell_i]
    show some ((vp_cell (cA κ) (len, .inl (fun k => iZ (S κ i k)))).setSlot _ _) = _
    rw [vp_cell_i, arrV_store, iZ_cl hR]
    congr 2
    funext q
    by_cases hq : q = j.toNat
    · subst hq
      simp only [updV, up3, and_self, if_true]
      first | rfl | (show narrow _ _ = _; exact (iZ_narc hz0 hz1).1)
    · simp [updV, up3, hq]
  · rw [ts_ty_arr htab hlt] at q
    cases q
theorem zs_z {j z : Int} (hexec : p.tables.exec = Jvm.exec) (hb : c.code = cc) (hK : ts_K tab D cA s) (hI : ts_I tab D cA A H0 (n, am, S) H locs) (hi : i < n κ) (htab : tab κ = .inr (len, 0, .boolean)) (h0 : 0 ≤ j) (hj : j < (len : Int)) (hR : iR j) (hz : ts_bd z) (hz0 : 0 ≤ z) (hz1 : z < 2) (hdg : decode cc pc = .ok (.bastore, 1))
    (kk : ∀ (H1 : Heap) (locs1 : List Loc), ts_I tab D cA A H0 (n, am, up3 S κ i j.toNat z) H1 locs1 → W p l e R s m args below meth c H1 locs1 cells slots Q (F0 m (pc + 1) ls rest)) : W p l e R s m args below meth c H locs cells slots Q (F0 m pc ls (.int (iZ z) :: .int (iZ j) :: .ref (am κ i) :: rest)) := by
  have hlt : j.toNat < len := by omega
  have hP := ts_P_arr hI.1 hi htab 0 _ rfl
  refine W.zast hexec hb hP (((ts_K_arr hK htab).2 0 _ rfl).1 len (fun j => .int (iZ (S κ i j)))) (fun q => by cases q) (by show ¬ (iZ j < 0 ∨ (arrV _ _ _).slots.size ≤ _); rw [arrV_size]; exact iZ_in h0 hj hR) rfl rfl hdg fun H1 e z1 oq => ?_
  refine kk H1 _ (hI.put hi ?_ z1 oq hz (fun t' q => ?_))
  · show va_at D vwCl (am κ i, ts_E tab cA am (up3 S κ i j.toNat z) κ i) H1
    rw [ts_E_arr htab]
    show H1[am κ i]? = some (vp_cell (cA κ) (len, .inl (fun k => iZ (up3 S κ i j.toNat z κ i k))))
    rw [e, vp_cell_i]
    show some ((vp_cell (cA κ) (len, .inl (fun k => iZ (S κ i k)))).setSlot _ _) = _
    rw [vp_cell_i, arrV_store, iZ_cl hR]
    congr 2
    funext q
    by_cases hq : q = j.toNat
    · subst hq
      simp only [updV, up3, and_self, if_true]
      first | rfl | (show narrow _ _ = _; exact (iZ_narz hz0 hz1).1)
    · simp [updV, up3, hq]
  · rw [ts_ty_arr htab hlt] at q
    cases q
/-- an element that is a reference, null or not -/
theorem za_q {t : Nat} {j : Int} {C : String} (hexec : p.tables.exec = Jvm.exec) (hb : c.code = cc) (hK : ts_K tab D cA s) (hI : ts_I tab D cA A H0 (n, am, S) H locs) (hi : i < n κ) (htab : tab κ = .inr (len, t + 2, .object C)) (h0 : 0 ≤ j) (hj : j < (len : Int)) (hR : iR j) (hdg : decode cc pc = .ok (.aaload, 1))
    (kn : S κ i j.toNat < 0 → W p l e R s m args below meth c H locs cells slots Q (F0 m (pc + 1) ls (.null :: rest))) (kk : ∀ k : Nat, S κ i j.toNat = (k : Int) → k < n t → W p l e R s m args below meth c H locs cells slots Q (F0 m (pc + 1) ls (.ref (am t k) :: rest))) : W p l e R s m args below meth c H locs cells slots Q (F0 m pc ls (.int (iZ j) :: .ref (am κ i) :: rest)) := by
  refine va_aldq (f := fun j => ts_R am t (S κ i j)) hexec hb (ts_K_arr hK htab) (ts_P_arr hI.1 hi htab) 0 0 rfl rfl (iZ_in h0 hj hR) hdg ?_
  rw [iZ_cl hR]
  by_cases h : S κ i j.toNat < 0
  · rw [ts_rf_n h]
    exact kn h
  · obtain ⟨k, hk⟩ := Int.eq_ofNat_of_zero_le (Int.not_lt.mp h)
    rw [ts_rf_r (Int.not_lt.mp h), hk]
    have h2 := ts_rf_lt hI.1.2.2 hi (ts_ty_arr htab (show j.toNat < len by omega))
    dsimp only at h2
    exact kk k hk (by rw [hk] at h2; omega)
/-- a reference is stored -/
theorem zs_r {t k ci : Nat} {ts : List Nat} {j : Int} {r : vw_C} (hexec : p.tables.exec = Jvm.exec) (hb : c.code = cc) (hK : ts_K tab D cA s) (hI : ts_I tab D cA A H0 (n, am, S) H locs) (hi : i < n κ) (htab : tab κ = .inr (len, t + 2, .object r.1)) (hk : k < n t) (htab2 : tab t = .inl (ci, ts)) (hc : vwCl[ci]? = some r) (h0 : 0 ≤ j) (hj : j < (len : Int)) (hR : iR j) (hz : ts_bd (k : Int)) (hdg : decode cc pc = .ok (.aastore, 1))
    (kk : ∀ (H1 : Heap) (locs1 : List Loc), ts_I tab D cA A H0 (n, am, up3 S κ i j.toNat (k : Int)) H1 locs1 → W p l e R s m args below meth c H1 locs1 cells slots Q (F0 m (pc + 1) ls rest)) : W p l e R s m args below meth c H locs cells slots Q (F0 m pc ls (.ref (am t k) :: .int (iZ j) :: .ref (am κ i) :: rest)) := by
  have hlt : j.toNat < len := by omega
  have hP := ts_P_arr hI.1 hi htab 0 _ rfl
  have h1 := hI.1.1 t k hk
  dsimp only at h1
  rw [ts_E_obj htab2] at h1
  obtain ⟨r', hr', cellV, g1, g2, g3, -⟩ := h1
  have hcls := (hK.1.1 ci r hc).2
  obtain ⟨kA, comp, k1, k2, k3, -⟩ := ((ts_K_arr hK htab).2 0 _ rfl).2
  have hcomp : comp = D.1 ci := Option.some.inj (k3.symm.trans hcls.1)
  subst hcomp
  obtain ⟨kC, hkC, -⟩ := hcls.2
  have hneg : ¬ iZ j < 0 := fun q => by
    have := (iZ_lt (b := 0) hR (by decide)).mp (by rw [iZ_0]; exact q)
    omega
  refine W.aast hexec hb hP (fun q h => by cases h) (fun h => by cases h) k1 k2 rfl hkC ⟨hneg, by show _ < (arrV _ _ _).slots.size; rw [arrV_size, iZ_cl hR]; exact hlt⟩ g1 (fun q h => by rw [g3] at h; cases h) (by rw [g2]; exact hkC) (by rw [g2]; exact va_assign hcls) rfl rfl hdg fun H1 e z1 oq => ?_
  refine kk H1 _ (hI.put hi ?_ z1 oq hz (fun t' q => ?_))
  · show va_at D vwCl (am κ i, ts_E tab cA am (up3 S κ i j.toNat (k : Int)) κ i) H1
    rw [ts_E_arr htab]
    show H1[am κ i]? = some (vp_cell (cA κ) (len, .inr (.inr (.inr (.inr (fun b => ts_R am t (up3 S κ i j.toNat (k : Int) κ i b)))))))
    rw [e, vp_cell_q]
    show some ((vp_cell (cA κ) (len, .inr (.inr (.inr (.inr (fun b => ts_R am t (S κ i b))))))).setSlot _ _) = _
    rw [vp_cell_q, arrV_store, iZ_cl hR]
    congr 2
    funext q
    by_cases hq : q = j.toNat
    · subst hq
      simp only [updV, up3, and_self, if_true]
      exact (ts_rf_r (by omega)).symm
    · simp [updV, up3, hq]
  · rw [ts_ty_arr htab hlt] at q
    have : t = t' := by omega
    subst this
    show (k : Int) < (n t : Int)
    omega
/-- a store with one thing more -/
theorem ts_P.grow {H1 : Heap} {f0 : Nat → Int} (h : ts_P tab D cA (n, am, S) H) (e1 : va_at D vwCl (H.size, ts_E tab cA am (up2 S κ (n κ) f0) κ (n κ)) H1) (o1 : ∀ q : Nat, q < H.size → H1[q]? = H[q]?) (hb : ∀ k, ts_bd (f0 k)) (hr : ∀ k t, ts_ty tab κ k = some (t + 2) → f0 k < (n t : Int)) : ts_P tab D cA (upN n κ (n κ + 1), upA am κ (n κ) H.size, up2 S κ (n κ) f0) H1 := by
  have hN : ∀ a b : Nat, b < upN n κ (n κ + 1) a → (a = κ ∧ b = n κ) ∨ (b < n a ∧ ¬ (a = κ ∧ b = n κ)) := by
    intro a b hab
    by_cases ha : a = κ
    · subst ha
      rw [upN_s] at hab
      by_cases hbn : b = n a
      · exact Or.inl ⟨rfl, hbn⟩
      · exact Or.inr ⟨by omega, fun q => hbn q.2⟩
    · rw [upN_r ha] at hab
      exact Or.inr ⟨hab, fun q => ha q.1⟩
  have hle : ∀ t : Nat, n t ≤ upN n κ (n κ + 1) t := by
    intro t
    by_cases ht : t = κ
    · subst ht; rw [upN_s]; omega
    · rw [upN_r ht]; omega
  have hV : ∀ (t : Nat) (z : Int), (∀ t', t = t' + 2 → z < (n t' : Int)) → ts_V (upA am κ (n κ) H.size) t z = ts_V am t z := by
    intro t z hz
    match t with
    | 0 => rfl
    | 1 => rfl
    | k + 2 =>
      show va_rf (ts_R _ k z) = va_rf (ts_R am k z)
      unfold ts_R
      by_cases h0 : z < 0
      · rw [if_pos h0, if_pos h0]
      · rw [if_neg h0, if_neg h0, upA_r]
        rintro ⟨rfl, hq⟩
        have := hz k rfl
        omega
  have hE : ∀ (a b : Nat) (S' : ts_St), (∀ k t, ts_ty tab a k = some (t + 2) → S' a b k < (n t : Int)) → ts_E tab cA (upA am κ (n κ) H.size) S' a b = ts_E tab cA am S' a b := by
    intro a b S' hS'
    cases htab : tab a with
    | inl q =>
      rw [ts_E_obj (ci := q.1) (ts := q.2) htab, ts_E_obj (ci := q.1) (ts := q.2) htab]
      congr 2
      exact ts_L_congr fun k t hk => hV t _ fun t' ht => hS' k t' (by rw [ts_ty_obj (ci := q.1) (ts := q.2) htab, hk, ht])
    | inr q =>
      obtain ⟨len, t, ty⟩ := q
      rw [ts_E_arr htab, ts_E_arr htab]
      match t, htab with
      | 0, _ => rfl
      | 1, _ => rfl
      | k + 2, htab =>
        show Sum.inl (cA a, len, Sum.inr (Sum.inr (Sum.inr (Sum.inr fun j => ts_R _ k (S' a b j))))) = Sum.inl (cA a, len, Sum.inr (Sum.inr (Sum.inr (Sum.inr fun j => ts_R am k (S' a b j)))))
        sorry
  sorry
end TAR
