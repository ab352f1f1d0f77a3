/-! Arrays of a typed store: loads, stores, lengths; new objects and arrays. -/
theorem ts_K_arr {tab : ts_Tab} {D : va_G} {cA : Nat → ClassId} {s : State} {κ len t : Nat} {ty : FieldType} (hK : ts_K tab D cA s) (htab : tab κ = .inr (len, t, ty)) : va_K D vwCl [(cA κ, ty)] s := by
  refine ⟨hK.1.1, fun k q hk => ?_⟩
  have hz : k < 1 := (List.getElem?_eq_some_iff.mp hk).1
  rw [show k = 0 by omega] at hk
  cases hk
  exact (hK.2 κ _ htab).1
theorem ts_P_arr {tab : ts_Tab} {D : va_G} {cA : Nat → ClassId} {n : Nat → Nat} {am : ts_Am} {S : ts_St} {H : Heap} {κ i len t : Nat} {ty : FieldType} (h : ts_P tab D cA (n, am, S) H) (hi : i < n κ) (htab : tab κ = .inr (len, t, ty)) : va_P D vwCl [(am κ i, .inl (cA κ, len, ts_F am t (S κ i)))] H := fun j q hj => by
  have hz : j < 1 := (List.getElem?_eq_some_iff.mp hj).1
  rw [show j = 0 by omega] at hj
  cases hj
  have h1 := h.1 κ i hi
  dsimp only at h1
  rw [ts_E_arr htab] at h1
  exact h1
section TAR
variable {p : Program} {l : Launch} {e : Env} {R : Room} {s : State} {m : MethodId} {args : Array Value} {below : List Frame} {meth : Method} {c : Code} {H : Heap} {locs : List Loc} {cells slots : Nat} {Q : State → Prop} {cc : ByteArray} {pc : Nat} {ls : Array Slot} {rest : List Value}
variable {tab : ts_Tab} {D : va_G} {cA : Nat → ClassId} {A : Nat → Prop} {H0 : Heap} {n : Nat → Nat} {am : ts_Am} {S : ts_St} {κ i len : Nat}
theorem zal {t : Nat} {ty : FieldType} (hexec : p.tables.exec = Jvm.exec) (hb : c.code = cc) (hK : ts_K tab D cA s) (hI : ts_I tab D cA A H0 (n, am, S) H locs) (hi : i < n κ) (htab : tab κ = .inr (len, t, ty)) (hdg : decode cc pc = .ok (.arraylength, 1))
    (kk : W p l e R s m args below meth c H locs cells slots Q (F0 m (pc + 1) ls (.int (iZ (len : Int)) :: rest))) : W p l e R s m args below meth c H locs cells slots Q (F0 m pc ls (.ref (am κ i) :: rest)) :=
  va_alen hexec hb (ts_K_arr hK htab) (ts_P_arr hI.1 hi htab) 0 0 rfl rfl (v := iZ (len : Int)) ((iZ_nI len).symm) hdg kk
theorem za_i {j z : Int} (hexec : p.tables.exec = Jvm.exec) (hb : c.code = cc) (hK : ts_K tab D cA s) (hI : ts_I tab D cA A H0 (n, am, S) H locs) (hi : i < n κ) (htab : tab κ = .inr (len, 0, .int)) (h0 : 0 ≤ j) (hj : j < (len : Int)) (hR : iR j) (hdg : decode cc pc = .ok (.iaload, 1)) (hz : S κ i j.toNat = z)
    (kk : ts_bd z → W p l e R s m args below meth c H locs cells slots Q (F0 m (pc + 1) ls (.int (iZ z) :: rest))) : W p l e R s m args below meth c H locs cells slots Q (F0 m pc ls (.int (iZ j) :: .ref (am κ i) :: rest)) := by
  refine va_iald (f := fun j => iZ (S κ i j)) hexec hb (ts_K_arr hK htab) (ts_P_arr hI.1 hi htab) 0 0 rfl rfl (iZ_in h0 hj hR) hdg ?_
  rw [iZ_cl hR]
  subst hz
  exact kk (hI.1.2.2.1 κ i j.toNat (by rw [ts_ty_arr htab]; decide))
theorem za_c {j z : Int} (hexec : p.tables.exec = Jvm.exec) (hb : c.code = cc) (hK : ts_K tab D cA s) (hI : ts_I tab D cA A H0 (n, am, S) H locs) (hi : i < n κ) (htab : tab κ = .inr (len, 0, .char)) (h0 : 0 ≤ j) (hj : j < (len : Int)) (hR : iR j) (hdg : decode cc pc = .ok (.caload, 1)) (hz : S κ i j.toNat = z)
    (kk : ts_bd z → W p l e R s m args below meth c H locs cells slots Q (F0 m (pc + 1) ls (.int (iZ z) :: rest))) : W p l e R s m args below meth c H locs cells slots Q (F0 m pc ls (.int (iZ j) :: .ref (am κ i) :: rest)) := by
  refine va_cald (f := fun j => iZ (S κ i j)) hexec hb (ts_K_arr hK htab) (ts_P_arr hI.1 hi htab) 0 0 rfl rfl (iZ_in h0 hj hR) hdg ?_
  rw [iZ_cl hR]
  subst hz
  exact kk (hI.1.2.2.1 κ i j.toNat (by rw [ts_ty_arr htab]; decide))
theorem za_z {j z : Int} (hexec : p.tables.exec = Jvm.exec) (hb : c.code = cc) (hK : ts_K tab D cA s) (hI : ts_I tab D cA A H0 (n, am, S) H locs) (hi : i < n κ) (htab : tab κ = .inr (len, 0, .boolean)) (h0 : 0 ≤ j) (hj : j < (len : Int)) (hR : iR j) (hdg : decode cc pc = .ok (.baload, 1)) (hz : S κ i j.toNat = z)
    (kk : ts_bd z → W p l e R s m args below meth c H locs cells slots Q (F0 m (pc + 1) ls (.int (iZ z) :: rest))) : W p l e R s m args below meth c H locs cells slots Q (F0 m pc ls (.int (iZ j) :: .ref (am κ i) :: rest)) := by
  refine va_zald (f := fun j => iZ (S κ i j)) hexec hb (ts_K_arr hK htab) (ts_P_arr hI.1 hi htab) 0 0 rfl rfl (iZ_in h0 hj hR) hdg ?_
  rw [iZ_cl hR]
  subst hz
  exact kk (hI.1.2.2.1 κ i j.toNat (by rw [ts_ty_arr htab]; decide))
theorem zs_i {j z : Int} (hexec : p.tables.exec = Jvm.exec) (hb : c.code = cc) (hK : ts_K tab D cA s) (hI : ts_I tab D cA A H0 (n, am, S) H locs) (hi : i < n κ) (htab : tab κ = .inr (len, 0, .int)) (h0 : 0 ≤ j) (hj : j < (len : Int)) (hR : iR j) (hz : ts_bd z) (hdg : decode cc pc = .ok (.iastore, 1))
    (kk : ∀ (H1 : Heap) (locs1 : List Loc), ts_I tab D cA A H0 (n, am, up3 S κ i j.toNat z) H1 locs1 → W p l e R s m args below meth c H1 locs1 cells slots Q (F0 m (pc + 1) ls rest)) : W p l e R s m args below meth c H locs cells slots Q (F0 m pc ls (.int (iZ z) :: .int (iZ j) :: .ref (am κ i) :: rest)) := by
  have hlt : j.toNat < len := by omega
  have hP := ts_P_arr hI.1 hi htab 0 _ rfl
  refine W.iast hexec hb hP (((ts_K_arr hK htab).2 0 _ rfl).1 len (fun j => .int (iZ (S κ i j)))) (fun q => by cases q) (by show ¬ (iZ j < 0 ∨ (arrV _ _ _).slots.size ≤ _); rw [arrV_size]; exact iZ_in h0 hj hR) rfl rfl hdg fun H1 e z1 oq => ?_
  refine kk H1 _ (hI.put hi ?_ z1 oq (fun _ => hz) (fun t' q => ?_))
  · show va_at D vwCl (am κ i, ts_E tab cA am (up3 S κ i j.toNat z) κ i) H1
    rw [ts_E_arr htab]
    show H1[am κ i]? = some (vp_cell (cA κ) (len, .inl (fun k => iZ (up3 S κ i j.toNat z κ i k))))
    rw [e, vp_cell_i]
    show some ((vp_cell (cA κ) (len, .inl (fun k => iZ (S κ i k)))).setSlot _ _) = _
    rw [vp_cell_i, arrV_store, iZ_cl hR]
    congr 2
    funext q
    by_cases hq : q = j.toNat
    · subst hq
      simp only [updV, up3, and_self, if_true]
      skip
    · simp [updV, up3, hq]
  · rw [ts_ty_arr htab] at q
    cases q
theorem zs_c {j z : Int} (hexec : p.tables.exec = Jvm.exec) (hb : c.code = cc) (hK : ts_K tab D cA s) (hI : ts_I tab D cA A H0 (n, am, S) H locs) (hi : i < n κ) (htab : tab κ = .inr (len, 0, .char)) (h0 : 0 ≤ j) (hj : j < (len : Int)) (hR : iR j) (hz : ts_bd z) (hz0 : 0 ≤ z) (hz1 : z < 65536) (hdg : decode cc pc = .ok (.castore, 1))
    (kk : ∀ (H1 : Heap) (locs1 : List Loc), ts_I tab D cA A H0 (n, am, up3 S κ i j.toNat z) H1 locs1 → W p l e R s m args below meth c H1 locs1 cells slots Q (F0 m (pc + 1) ls rest)) : W p l e R s m args below meth c H locs cells slots Q (F0 m pc ls (.int (iZ z) :: .int (iZ j) :: .ref (am κ i) :: rest)) := by
  have hlt : j.toNat < len := by omega
  have hP := ts_P_arr hI.1 hi htab 0 _ rfl
  refine W.cast hexec hb hP (((ts_K_arr hK htab).2 0 _ rfl).1 len (fun j => .int (iZ (S κ i j)))) (fun q => by cases q) (by show ¬ (iZ j < 0 ∨ (arrV _ _ _).slots.size ≤ _); rw [arrV_size]; exact iZ_in h0 hj hR) rfl rfl hdg fun H1 e z1 oq => ?_
  refine kk H1 _ (hI.put hi ?_ z1 oq (fun _ => hz) (fun t' q => ?_))
  · show va_at D vwCl (am κ i, ts_E tab cA am (up3 S κ i j.toNat z) κ i) H1
    rw [ts_E_arr htab]
    show H1[am κ i]? = some (vp_cell (cA κ) (len, .inl (fun k => iZ (up3 S κ i j.toNat z κ i k))))
    rw [e, vp_cell_i]
    show some ((vp_cell (cA κ) (len, .inl (fun k => iZ (S κ i k)))).setSlot _ _) = _
    rw [vp_cell_i, arrV_store, iZ_cl hR]
    congr 2
    funext q
    by_cases hq : q = j.toNat
    · subst hq
      simp only [updV, up3, and_self, if_true]
      first | rfl | (show narrow _ _ = _; exact (iZ_narc hz0 hz1).1)
    · simp [updV, up3, hq]
  · rw [ts_ty_arr htab] at q
    cases q
theorem zs_z {j z : Int} (hexec : p.tables.exec = Jvm.exec) (hb : c.code = cc) (hK : ts_K tab D cA s) (hI : ts_I tab D cA A H0 (n, am, S) H locs) (hi : i < n κ) (htab : tab κ = .inr (len, 0, .boolean)) (h0 : 0 ≤ j) (hj : j < (len : Int)) (hR : iR j) (hz : ts_bd z) (hz0 : 0 ≤ z) (hz1 : z < 2) (hdg : decode cc pc = .ok (.bastore, 1))
    (kk : ∀ (H1 : Heap) (locs1 : List Loc), ts_I tab D cA A H0 (n, am, up3 S κ i j.toNat z) H1 locs1 → W p l e R s m args below meth c H1 locs1 cells slots Q (F0 m (pc + 1) ls rest)) : W p l e R s m args below meth c H locs cells slots Q (F0 m pc ls (.int (iZ z) :: .int (iZ j) :: .ref (am κ i) :: rest)) := by
  have hlt : j.toNat < len := by omega
  have hP := ts_P_arr hI.1 hi htab 0 _ rfl
  refine W.zast hexec hb hP (((ts_K_arr hK htab).2 0 _ rfl).1 len (fun j => .int (iZ (S κ i j)))) (fun q => by cases q) (by show ¬ (iZ j < 0 ∨ (arrV _ _ _).slots.size ≤ _); rw [arrV_size]; exact iZ_in h0 hj hR) rfl rfl hdg fun H1 e z1 oq => ?_
  refine kk H1 _ (hI.put hi ?_ z1 oq (fun _ => hz) (fun t' q => ?_))
  · show va_at D vwCl (am κ i, ts_E tab cA am (up3 S κ i j.toNat z) κ i) H1
    rw [ts_E_arr htab]
    show H1[am κ i]? = some (vp_cell (cA κ) (len, .inl (fun k => iZ (up3 S κ i j.toNat z κ i k))))
    rw [e, vp_cell_i]
    show some ((vp_cell (cA κ) (len, .inl (fun k => iZ (S κ i k)))).setSlot _ _) = _
    rw [vp_cell_i, arrV_store, iZ_cl hR]
    congr 2
    funext q
    by_cases hq : q = j.toNat
    · subst hq
      simp only [updV, up3, and_self, if_true]
      first | rfl | (show narrow _ _ = _; exact (iZ_narz hz0 hz1).1)
    · simp [updV, up3, hq]
  · rw [ts_ty_arr htab] at q
    cases q
/-- an element that is a reference, null or not -/
theorem za_q {t : Nat} {j : Int} {C : String} (hexec : p.tables.exec = Jvm.exec) (hb : c.code = cc) (hK : ts_K tab D cA s) (hI : ts_I tab D cA A H0 (n, am, S) H locs) (hi : i < n κ) (htab : tab κ = .inr (len, t + 2, .object C)) (h0 : 0 ≤ j) (hj : j < (len : Int)) (hR : iR j) (hdg : decode cc pc = .ok (.aaload, 1))
    (kn : S κ i j.toNat = -1 → W p l e R s m args below meth c H locs cells slots Q (F0 m (pc + 1) ls (.null :: rest))) (kk : ∀ k : Nat, S κ i j.toNat = (k : Int) → k < n t → W p l e R s m args below meth c H locs cells slots Q (F0 m (pc + 1) ls (.ref (am t k) :: rest))) : W p l e R s m args below meth c H locs cells slots Q (F0 m pc ls (.int (iZ j) :: .ref (am κ i) :: rest)) := by
  refine va_aldq (f := fun j => ts_R am t (S κ i j)) hexec hb (ts_K_arr hK htab) (ts_P_arr hI.1 hi htab) 0 0 rfl rfl (iZ_in h0 hj hR) hdg ?_
  rw [iZ_cl hR]
  by_cases h : S κ i j.toNat < 0
  · rw [ts_rf_n h]
    have h2 := ts_rf_ge (k := j.toNat) hI.1.2.2 hi (ts_ty_arr htab)
    dsimp only at h2
    exact kn (by omega)
  · obtain ⟨k, hk⟩ := Int.eq_ofNat_of_zero_le (Int.not_lt.mp h)
    rw [ts_rf_r (Int.not_lt.mp h), hk]
    have h2 := ts_rf_lt (k := j.toNat) hI.1.2.2 hi (ts_ty_arr htab)
    dsimp only at h2
    exact kk k hk (by rw [hk] at h2; omega)
/-- an element that is a reference known -/
theorem za_r {t k : Nat} {j : Int} {C : String} (hexec : p.tables.exec = Jvm.exec) (hb : c.code = cc) (hK : ts_K tab D cA s) (hI : ts_I tab D cA A H0 (n, am, S) H locs) (hi : i < n κ) (htab : tab κ = .inr (len, t + 2, .object C)) (h0 : 0 ≤ j) (hj : j < (len : Int)) (hR : iR j) (hdg : decode cc pc = .ok (.aaload, 1)) (hz : S κ i j.toNat = (k : Int))
    (kk : k < n t → W p l e R s m args below meth c H locs cells slots Q (F0 m (pc + 1) ls (.ref (am t k) :: rest))) : W p l e R s m args below meth c H locs cells slots Q (F0 m pc ls (.int (iZ j) :: .ref (am κ i) :: rest)) :=
  za_q hexec hb hK hI hi htab h0 hj hR hdg (fun q => by omega) (fun k' q h => by
    obtain rfl : k' = k := by omega
    exact kk h)
/-- a reference is stored -/
theorem zs_r {t k ci : Nat} {ts : List Nat} {j : Int} {r : vw_C} (hexec : p.tables.exec = Jvm.exec) (hb : c.code = cc) (hK : ts_K tab D cA s) (hI : ts_I tab D cA A H0 (n, am, S) H locs) (hi : i < n κ) (htab : tab κ = .inr (len, t + 2, .object r.1)) (hk : k < n t) (htab2 : tab t = .inl (ci, ts)) (hc : vwCl[ci]? = some r) (h0 : 0 ≤ j) (hj : j < (len : Int)) (hR : iR j) (hz : ts_bd (k : Int)) (hdg : decode cc pc = .ok (.aastore, 1))
    (kk : ∀ (H1 : Heap) (locs1 : List Loc), ts_I tab D cA A H0 (n, am, up3 S κ i j.toNat (k : Int)) H1 locs1 → W p l e R s m args below meth c H1 locs1 cells slots Q (F0 m (pc + 1) ls rest)) : W p l e R s m args below meth c H locs cells slots Q (F0 m pc ls (.ref (am t k) :: .int (iZ j) :: .ref (am κ i) :: rest)) := by
  have hlt : j.toNat < len := by omega
  have hP := ts_P_arr hI.1 hi htab 0 _ rfl
  have h1 := hI.1.1 t k hk
  dsimp only at h1
  rw [ts_E_obj htab2] at h1
  obtain ⟨r', hr', cellV, g1, g2, g3, -⟩ := h1
  have hcls := (hK.1.1 ci r hc).2
  obtain ⟨kA, comp, k1, k2, k3, -⟩ := ((ts_K_arr hK htab).2 0 _ rfl).2
  have hcomp : comp = D.1 ci := Option.some.inj (k3.symm.trans hcls.1)
  subst hcomp
  obtain ⟨kC, hkC, -⟩ := hcls.2
  have hneg : ¬ iZ j < 0 := fun q => by
    have := (iZ_lt (b := 0) hR (by decide)).mp (by rw [iZ_0]; exact q)
    omega
  refine W.aast hexec hb hP (fun q h => by cases h) (fun h => by cases h) k1 k2 rfl hkC ⟨hneg, by show _ < (arrV _ _ _).slots.size; rw [arrV_size, iZ_cl hR]; exact hlt⟩ g1 (fun q h => by rw [g3] at h; cases h) (by rw [g2]; exact hkC) (by rw [g2]; exact va_assign hcls) rfl rfl hdg fun H1 e z1 oq => ?_
  refine kk H1 _ (hI.put hi ?_ z1 oq (fun _ => hz) (fun t' q => ?_))
  · show va_at D vwCl (am κ i, ts_E tab cA am (up3 S κ i j.toNat (k : Int)) κ i) H1
    rw [ts_E_arr htab]
    show H1[am κ i]? = some (vp_cell (cA κ) (len, .inr (.inr (.inr (.inr (fun b => ts_R am t (up3 S κ i j.toNat (k : Int) κ i b)))))))
    rw [e, vp_cell_q]
    show some ((vp_cell (cA κ) (len, .inr (.inr (.inr (.inr (fun b => ts_R am t (S κ i b))))))).setSlot _ _) = _
    rw [vp_cell_q, arrV_store, iZ_cl hR]
    congr 2
    funext q
    by_cases hq : q = j.toNat
    · subst hq
      simp only [updV, up3, and_self, if_true]
      exact (ts_V_ref am t k).symm
    · simp [updV, up3, hq]
  · rw [ts_ty_arr htab] at q
    have : t = t' := by
      have := Option.some.inj q
      omega
    subst this
    show -1 ≤ (k : Int) ∧ (k : Int) < (n t : Int)
    omega
/-- a store with one thing more -/
theorem ts_P.grow {H1 : Heap} {f0 : Nat → Int} (h : ts_P tab D cA (n, am, S) H) (e1 : va_at D vwCl (H.size, ts_E tab cA (upA am κ (n κ) H.size) (up2 S κ (n κ) f0) κ (n κ)) H1) (o1 : ∀ q : Nat, q < H.size → H1[q]? = H[q]?) (hb : ∀ k, ts_bd (f0 k)) (hr : ∀ k t, ts_ty tab κ k = some (t + 2) → -1 ≤ f0 k ∧ f0 k < (n t : Int)) : ts_P tab D cA (upN n κ (n κ + 1), upA am κ (n κ) H.size, up2 S κ (n κ) f0) H1 := by
  have hN : ∀ a b : Nat, b < upN n κ (n κ + 1) a → (a = κ ∧ b = n κ) ∨ (b < n a ∧ ¬ (a = κ ∧ b = n κ)) := by
    intro a b hab
    by_cases ha : a = κ
    · subst ha
      rw [upN_s] at hab
      by_cases hbn : b = n a
      · exact Or.inl ⟨rfl, hbn⟩
      · exact Or.inr ⟨by omega, fun q => hbn q.2⟩
    · rw [upN_r ha] at hab
      exact Or.inr ⟨hab, fun q => ha q.1⟩
  have hle : ∀ t : Nat, n t ≤ upN n κ (n κ + 1) t := by
    intro t
    by_cases ht : t = κ
    · subst ht; rw [upN_s]; omega
    · rw [upN_r ht]; omega
  have hV : ∀ (t : Nat) (z : Int), (∀ t', t = t' + 2 → -1 ≤ z ∧ z < (n t' : Int)) → ts_V (upA am κ (n κ) H.size) t z = ts_V am t z := by
    intro t z hz
    match t with
    | 0 => rfl
    | 1 => rfl
    | k + 2 =>
      show va_rf (ts_R _ k z) = va_rf (ts_R am k z)
      unfold ts_R
      by_cases h0 : z < 0
      · rw [if_pos h0, if_pos h0]
      · rw [if_neg h0, if_neg h0, upA_r]
        rintro ⟨rfl, hq⟩
        have := hz k rfl
        omega
  have hE : ∀ (a b : Nat) (S' : ts_St), (∀ k t, ts_ty tab a k = some (t + 2) → -1 ≤ S' a b k ∧ S' a b k < (n t : Int)) → ts_E tab cA (upA am κ (n κ) H.size) S' a b = ts_E tab cA am S' a b := by
    intro a b S' hS'
    cases htab : tab a with
    | inl q =>
      rw [ts_E_obj (ci := q.1) (ts := q.2) htab, ts_E_obj (ci := q.1) (ts := q.2) htab]
      congr 2
      exact ts_L_congr fun k t hk => hV t _ fun t' ht => hS' k t' (by rw [ts_ty_obj (ci := q.1) (ts := q.2) htab, hk, ht])
    | inr q =>
      obtain ⟨len, t, ty⟩ := q
      rw [ts_E_arr htab, ts_E_arr htab]
      match t, htab with
      | 0, _ => rfl
      | 1, _ => rfl
      | k + 2, htab =>
        show Sum.inl (cA a, len, Sum.inr (Sum.inr (Sum.inr (Sum.inr fun j => ts_R _ k (S' a b j))))) = Sum.inl (cA a, len, Sum.inr (Sum.inr (Sum.inr (Sum.inr fun j => ts_R am k (S' a b j)))))
        have hfun : (fun j => ts_R (upA am κ (n κ) H.size) k (S' a b j)) = fun j => ts_R am k (S' a b j) := by
          funext j
          have h1 := hS' j k (ts_ty_arr htab)
          unfold ts_R
          by_cases h0 : S' a b j < 0
          · rw [if_pos h0, if_pos h0]
          · rw [if_neg h0, if_neg h0, upA_r]
            rintro ⟨rfl, hq⟩
            omega
        rw [hfun]
  have hrow : ∀ a b : Nat, b < upN n κ (n κ + 1) a → ∀ k t : Nat, ts_ty tab a k = some (t + 2) → -1 ≤ up2 S κ (n κ) f0 a b k ∧ up2 S κ (n κ) f0 a b k < (n t : Int) := by
    intro a b hab k t hk
    rcases hN a b hab with ⟨rfl, rfl⟩ | ⟨h1, h2⟩
    · rw [up2_s]
      exact hr k t hk
    · rw [up2_r h2]
      exact h.2.2.2 a b k t h1 hk
  refine ⟨fun a b hab => ?_, fun a b a' b' h1 h2 h3 => ?_, fun a b k hne => ?_, fun a b k t hab hk => ?_⟩
  · show va_at D vwCl (upA am κ (n κ) H.size a b, ts_E tab cA (upA am κ (n κ) H.size) (up2 S κ (n κ) f0) a b) H1
    rcases hN a b hab with ⟨rfl, rfl⟩ | ⟨h1, h2⟩
    · rw [upA_s]
      exact e1
    · rw [hE a b _ (hrow a b hab), upA_r h2, ts_E_row (up2_r h2)]
      have := h.1 a b h1
      exact this.kept (o1 _ this.lt)
  · have h3 : upA am κ (n κ) H.size a b = upA am κ (n κ) H.size a' b' := h3
    rcases hN a b h1 with ⟨rfl, rfl⟩ | ⟨q1, q2⟩ <;> rcases hN a' b' h2 with ⟨rfl, rfl⟩ | ⟨q3, q4⟩
    · exact ⟨rfl, rfl⟩
    · rw [upA_s, upA_r q4] at h3
      exact absurd h3 (Nat.ne_of_gt (h.1 a' b' q3).lt)
    · rw [upA_s, upA_r q2] at h3
      exact absurd h3 (Nat.ne_of_lt (h.1 a b q1).lt)
    · rw [upA_r q2, upA_r q4] at h3
      exact h.2.1 a b a' b' q1 q3 h3
  · show ts_bd (up2 S κ (n κ) f0 a b k)
    by_cases q : a = κ ∧ b = n κ
    · obtain ⟨rfl, rfl⟩ := q
      rw [up2_s]
      exact hb k
    · rw [up2_r q]
      exact h.2.2.1 a b k hne
  · have h1 := hrow a b hab k t hk
    have h2 := hle t
    show -1 ≤ up2 S κ (n κ) f0 a b k ∧ up2 S κ (n κ) f0 a b k < ((upN n κ (n κ + 1) t : Nat) : Int)
    omega
theorem ts_I.grow {H1 : Heap} {f0 : Nat → Int} (h : ts_I tab D cA A H0 (n, am, S) H locs) (e1 : va_at D vwCl (H.size, ts_E tab cA (upA am κ (n κ) H.size) (up2 S κ (n κ) f0) κ (n κ)) H1) (z1 : H1.size = H.size + 1) (o1 : ∀ q : Nat, q < H.size → H1[q]? = H[q]?) (hb : ∀ k, ts_bd (f0 k)) (hr : ∀ k t, ts_ty tab κ k = some (t + 2) → -1 ≤ f0 k ∧ f0 k < (n t : Int)) : ts_I tab D cA A H0 (upN n κ (n κ + 1), upA am κ (n κ) H.size, up2 S κ (n κ) f0) H1 locs := by
  refine ⟨h.1.grow e1 o1 hb hr, fun q hq => ?_, Nat.le_trans h.2.2.1 (by omega), fun q h1 h2 => (o1 q (Nat.lt_of_lt_of_le h1 h.2.2.1)).trans (h.2.2.2.1 q h1 h2), h.2.2.2.2⟩
  rcases hq with ⟨a, b, hab, rfl⟩ | hq
  · have hab : b < upN n κ (n κ + 1) a := hab
    show A (upA am κ (n κ) H.size a b)
    by_cases q : a = κ ∧ b = n κ
    · obtain ⟨rfl, rfl⟩ := q
      rw [upA_s]
      exact h.2.1 _ (Or.inr (Nat.le_refl _))
    · rw [upA_r q]
      refine h.2.1 _ (Or.inl ⟨a, b, ?_, rfl⟩)
      by_cases ha : a = κ
      · subst ha
        rw [upN_s] at hab
        show b < n a
        have : b ≠ n a := fun z => q ⟨rfl, z⟩
        omega
      · rw [upN_r ha] at hab
        exact hab
  · exact h.2.1 q (Or.inr (by omega))
/-- 'new' -/
theorem zn {own C : String} {T : u_T} {N ci index : Nat} {ts : List Nat} {f0 : Nat → Int} (hexec : p.tables.exec = Jvm.exec) (hb : c.code = cc) (hL : ∀ w ∈ u_ws C T N, w.before args s = true) (ty0 : Nat → FieldType) (hty : ∀ k, k < N → parseFieldDescriptor (T k).2.2.1 = some (ty0 k)) (hown : s.vm.findClass own = some m.cls) (hcl : (Cond.classLink own index C).before args s = true) (hinst : (Cond.instantiable C N).before args s = true) (hini : (Cond.initialized C).before args s = true) (hK : ts_K tab D cA s) (hI : ts_I tab D cA A H0 (n, am, S) H locs) (htab : tab κ = .inl (ci, ts)) (hc : vwCl[ci]? = some (C, T, N))
    (hfs : ∀ (am' : ts_Am) (j : Nat), j < N → defaultValue (ty0 j) = vp_V (ts_L am' f0 0 ts) j) (hf0 : ∀ k, ts_bd (f0 k)) (hr : ∀ k t, ts_ty tab κ k = some (t + 2) → -1 ≤ f0 k ∧ f0 k < (n t : Int)) (hcells : cells + 1 ≤ R.cells) (hslots : slots + N ≤ R.slots) (hdg : decode cc pc = .ok (.new index, 3))
    (kk : ∀ (am' : ts_Am) (H1 : Heap), (∀ a b : Nat, ¬ (a = κ ∧ b = n κ) → am' a b = am a b) → ts_I tab D cA A H0 (upN n κ (n κ + 1), am', up2 S κ (n κ) f0) H1 locs → W p l e R s m args below meth c H1 locs (cells + 1) (slots + N) Q (F0 m (pc + 3) ls (.ref (am' κ (n κ)) :: rest))) : W p l e R s m args below meth c H locs cells slots Q (F0 m pc ls rest) := by
  have hKn := hK.1.1 ci _ hc
  refine W.newcK hexec hb hown hcl hinst hini rfl hdg hcells hslots hKn.2.1 rfl fun H1 kC hkC e1 z1 o1 => ?_
  have key := kk (upA am κ (n κ) H.size) H1 (fun a b q => upA_r q) (hI.grow (f0 := f0) ?_ z1 o1 hf0 hr)
  · rw [upA_s] at key
    exact key
  · rw [ts_E_obj htab, up2_s]
    exact ⟨_, hc, (u_born ty0 hL (fun _ h => h) hKn hkC e1 hty).to (hfs _)⟩
theorem ts_RA_eq {U : State} {c1 c2 : ClassId} {ty : FieldType} (h1 : va_RA U c1 ty) (h2 : va_RA U c2 ty) : c1 = c2 := by
  cases ty with
  | object C =>
    obtain ⟨_, _, -, -, -, h1⟩ := h1
    obtain ⟨_, _, -, -, -, h2⟩ := h2
    exact Option.some.inj (h1.symm.trans h2)
  | _ => exact Option.some.inj (Eq.trans (Eq.symm h1) h2)
/-- 'newarray' of ints, chars, booleans -/
theorem zna {atype : ArrayType} {ty : FieldType} {z : Int} (hexec : p.tables.exec = Jvm.exec) (hb : c.code = cc) (harr : (Cond.arrayClass (newarray.typeOf atype)).before args s = true) (hty : newarray.typeOf atype = ty) (hdef : defaultValue ty = .int 0) (hK : ts_K tab D cA s) (hI : ts_I tab D cA A H0 (n, am, S) H locs) (htab : tab κ = .inr (len, 0, ty)) (hz : z = (len : Int)) (hlen : len < 1000000) (hbytes : len * componentBytes ty ≤ 536870912) (hcells : cells + 1 ≤ R.cells) (hslots : slots + len ≤ R.slots) (hdg : decode cc pc = .ok (.newarray atype, 2)) (hra : ∀ cA1, s.vm.findClass ("[" ++ ty.toString) = some cA1 → va_RA s cA1 ty)
    (kk : ∀ (am' : ts_Am) (H1 : Heap), (∀ a b : Nat, ¬ (a = κ ∧ b = n κ) → am' a b = am a b) → ts_I tab D cA A H0 (upN n κ (n κ + 1), am', up2 S κ (n κ) (fun _ => 0)) H1 locs → W p l e R s m args below meth c H1 locs (cells + 1) (slots + len) Q (F0 m (pc + 2) ls (.ref (am' κ (n κ)) :: rest))) : W p l e R s m args below meth c H locs cells slots Q (F0 m pc ls (.int (iZ z) :: rest)) := by
  subst hty
  subst hz
  have hR : iR (len : Int) := ⟨by omega, by omega⟩
  have hneg : ¬ iZ (len : Int) < 0 := fun q => by
    have := (iZ_lt (b := 0) hR (by decide)).mp (by rw [iZ_0]; exact q)
    omega
  refine va_newaK hexec hb harr rfl hdg rfl hneg (by rw [iZ_cl hR]; rfl) hbytes hcells hslots rfl fun H1 cA1 e1 z1 o1 hAr hNm => ?_
  have hcA : cA1 = cA κ := ts_RA_eq (hra cA1 hNm) (hK.2 κ _ htab).1.2
  subst hcA
  have key := kk (upA am κ (n κ) H.size) H1 (fun a b q => upA_r q) (hI.grow (f0 := fun _ => 0) ?_ z1 o1 (fun _ => ts_bd_0) (fun k t q => ?_))
  · rw [upA_s] at key
    exact key
  · rw [ts_E_arr htab, up2_s]
    show H1[H.size]? = some (vp_cell (cA κ) (len, .inl (fun _ => iZ 0)))
    rw [vp_cell_i, e1, hdef]
    rfl
  · rw [ts_ty_arr htab] at q
    cases q
/-- 'anewarray' -/
theorem znq {own C : String} {index t : Nat} {z : Int} (hexec : p.tables.exec = Jvm.exec) (hb : c.code = cc) (hown : s.vm.findClass own = some m.cls) (hclink : (Cond.classLink own index C).before args s = true) (hK : ts_K tab D cA s) (hI : ts_I tab D cA A H0 (n, am, S) H locs) (htab : tab κ = .inr (len, t + 2, .object C)) (hz : z = (len : Int)) (hlen : len < 1000000) (hcells : cells + 1 ≤ R.cells) (hslots : slots + len ≤ R.slots) (hdg : decode cc pc = .ok (.anewarray index, 3))
    (kk : ∀ (am' : ts_Am) (H1 : Heap), (∀ a b : Nat, ¬ (a = κ ∧ b = n κ) → am' a b = am a b) → ts_I tab D cA A H0 (upN n κ (n κ + 1), am', up2 S κ (n κ) (fun _ => -1)) H1 locs → W p l e R s m args below meth c H1 locs (cells + 1) (slots + len) Q (F0 m (pc + 3) ls (.ref (am' κ (n κ)) :: rest))) : W p l e R s m args below meth c H locs cells slots Q (F0 m pc ls (.int (iZ z) :: rest)) := by
  subst hz
  have hR : iR (len : Int) := ⟨by omega, by omega⟩
  have hcl : (iZ (len : Int)).toNatClampNeg = len := by rw [iZ_cl hR]; rfl
  have hneg : ¬ iZ (len : Int) < 0 := fun q => by
    have := (iZ_lt (b := 0) hR (by decide)).mp (by rw [iZ_0]; exact q)
    omega
  refine W.anew hexec hb hown hclink (va_AO.use ((hK.2 κ _ htab).2 _ rfl)) rfl hdg rfl hneg (by rw [hcl]; omega) hcells (by rw [hcl]; exact hslots) fun cA1 kA comp f1 f2 f3 f4 => ?_
  rw [hcl]
  generalize hH1 : H.push ({ cls := cA1, slots := Array.replicate len .null, vm := .none } : Cell) = H1
  have z1 : H1.size = H.size + 1 := by rw [← hH1, Array.size_push]
  have e1 : H1[H.size]? = some (arrV cA1 len (fun _ => .null)) := by rw [← hH1, Array.getElem?_push_size, ← arrV_new]
  have o1 : ∀ q : Nat, q < H.size → H1[q]? = H[q]? := fun q hq => by rw [← hH1, Array.getElem?_push, if_neg (Nat.ne_of_lt hq)]
  have hcA : cA1 = cA κ := ts_RA_eq (ty := .object C) ⟨kA, comp, f2, f3, f4, f1⟩ (hK.2 κ _ htab).1.2
  subst hcA
  have key := kk (upA am κ (n κ) H.size) H1 (fun a b q => upA_r q) (hI.grow (f0 := fun _ => -1) ?_ z1 o1 (fun _ => by constructor <;> decide) (fun k t q => by omega))
  · rw [upA_s] at key
    exact key
  · rw [ts_E_arr htab, up2_s]
    show H1[H.size]? = some (vp_cell (cA κ) (len, .inr (.inr (.inr (.inr (fun _ => none))))))
    rw [vp_cell_q, e1]
    rfl
end TAR
