def zfM (k : Nat) : Int := if 1 ≤ k ∧ k ≤ 15 ∧ ¬ k = 5 ∧ ¬ k = 8 then -1 else 0
theorem zfM_bd : ∀ k, ts_bd (zfM k) := by
  intro k
  unfold zfM
  split <;> (constructor <;> decide)
theorem zfM_0 : ∀ (am' : ts_Am) (j : Nat), j < 25 → defaultValue (tyX5 j) = vp_V (ts_L am' zfM 0 [0, 3, 4, 5, 6, 0, 8, 9, 0, 11, 12, 13, 14, 15, 16, 17, 0, 0, 0, 0, 0, 0, 0, 1, 0]) j := fun am' j hj => match j, hj with
  | 0, _ => rfl
  | 1, _ => rfl
  | 2, _ => rfl
  | 3, _ => rfl
  | 4, _ => rfl
  | 5, _ => rfl
  | 6, _ => rfl
  | 7, _ => rfl
  | 8, _ => rfl
  | 9, _ => rfl
  | 10, _ => rfl
  | 11, _ => rfl
  | 12, _ => rfl
  | 13, _ => rfl
  | 14, _ => rfl
  | 15, _ => rfl
  | 16, _ => rfl
  | 17, _ => rfl
  | 18, _ => rfl
  | 19, _ => rfl
  | 20, _ => rfl
  | 21, _ => rfl
  | 22, _ => rfl
  | 23, _ => rfl
  | 24, _ => rfl
  | j + 25, hj => absurd hj (by omega)
theorem zfM_r0 (n : Nat → Nat) : ∀ k t : Nat, ts_ty TM 0 k = some (t + 2) → -1 ≤ zfM k ∧ zfM k < (n t : Int) := by
  intro k t q
  match k, q with
  | 0, q => exact absurd (Option.some.inj (show some 0 = some (t + 2) from q)) (by omega)
  | 1, q => exact ⟨(show (-1 : Int) ≤ -1 by decide), (show (-1 : Int) < (n t : Int) by omega)⟩
  | 2, q => exact ⟨(show (-1 : Int) ≤ -1 by decide), (show (-1 : Int) < (n t : Int) by omega)⟩
  | 3, q => exact ⟨(show (-1 : Int) ≤ -1 by decide), (show (-1 : Int) < (n t : Int) by omega)⟩
  | 4, q => exact ⟨(show (-1 : Int) ≤ -1 by decide), (show (-1 : Int) < (n t : Int) by omega)⟩
  | 5, q => exact absurd (Option.some.inj (show some 0 = some (t + 2) from q)) (by omega)
  | 6, q => exact ⟨(show (-1 : Int) ≤ -1 by decide), (show (-1 : Int) < (n t : Int) by omega)⟩
  | 7, q => exact ⟨(show (-1 : Int) ≤ -1 by decide), (show (-1 : Int) < (n t : Int) by omega)⟩
  | 8, q => exact absurd (Option.some.inj (show some 0 = some (t + 2) from q)) (by omega)
  | 9, q => exact ⟨(show (-1 : Int) ≤ -1 by decide), (show (-1 : Int) < (n t : Int) by omega)⟩
  | 10, q => exact ⟨(show (-1 : Int) ≤ -1 by decide), (show (-1 : Int) < (n t : Int) by omega)⟩
  | 11, q => exact ⟨(show (-1 : Int) ≤ -1 by decide), (show (-1 : Int) < (n t : Int) by omega)⟩
  | 12, q => exact ⟨(show (-1 : Int) ≤ -1 by decide), (show (-1 : Int) < (n t : Int) by omega)⟩
  | 13, q => exact ⟨(show (-1 : Int) ≤ -1 by decide), (show (-1 : Int) < (n t : Int) by omega)⟩
  | 14, q => exact ⟨(show (-1 : Int) ≤ -1 by decide), (show (-1 : Int) < (n t : Int) by omega)⟩
  | 15, q => exact ⟨(show (-1 : Int) ≤ -1 by decide), (show (-1 : Int) < (n t : Int) by omega)⟩
  | 16, q => exact absurd (Option.some.inj (show some 0 = some (t + 2) from q)) (by omega)
  | 17, q => exact absurd (Option.some.inj (show some 0 = some (t + 2) from q)) (by omega)
  | 18, q => exact absurd (Option.some.inj (show some 0 = some (t + 2) from q)) (by omega)
  | 19, q => exact absurd (Option.some.inj (show some 0 = some (t + 2) from q)) (by omega)
  | 20, q => exact absurd (Option.some.inj (show some 0 = some (t + 2) from q)) (by omega)
  | 21, q => exact absurd (Option.some.inj (show some 0 = some (t + 2) from q)) (by omega)
  | 22, q => exact absurd (Option.some.inj (show some 0 = some (t + 2) from q)) (by omega)
  | 23, q => exact absurd (Option.some.inj (show some 1 = some (t + 2) from q)) (by omega)
  | 24, q => exact absurd (Option.some.inj (show some 0 = some (t + 2) from q)) (by omega)
  | j + 25, q => cases (show (none : Option Nat) = some (t + 2) from q)
/-- the model when it is new -/
def mFresh (n' : Nat → Nat) (S' : ts_St) : Prop := mW n' S' ∧ (S' 0 0 0 = 0 ∧ S' 0 0 5 = 0 ∧ S' 0 0 8 = 0 ∧ S' 0 0 21 = 0 ∧ S' 0 0 22 = 0 ∧ S' 0 0 23 = 0 ∧ S' 0 0 24 = 0) ∧ (S' 0 0 16 = 1 ∧ S' 0 0 17 = 2 ∧ S' 0 0 18 = 30 ∧ S' 0 0 19 = 4 ∧ S' 0 0 20 = 50) ∧ ∀ κ ∈ mKs, ¬ κ = 0 → ∀ k, S' κ 0 k = 0
set_option maxHeartbeats 4000000 in
set_option maxRecDepth 100000 in
theorem c_X5_init (l : Launch) (D : va_G) (cA : Nat → ClassId) (n : Nat → Nat) (am : ts_Am) (S : ts_St) (sz : Nat)  (hn0 : n 0 = 1) (hn : ∀ κ, ¬ κ = 0 → n κ = 0) (hS : ∀ k, S 0 0 k = zfM k) : Met l yX5_init wsX5_init ({ frames := 1, cells := 13, slots := 312, locals := 24 } : Room) (va_Pc [.ref (am 0 0)] (zP TM D cA (n, am, S) sz)) (zQv TM D cA (n, am, S) sz (fun u => ∃ am' n' S', amK n am am' ∧ u = (n', am', S') ∧ mFresh n' S')) 13 312 (ts_A (n, am, S) sz) := by
  refine zM_of (by decide) rfl (Nat.le_of_ble_eq_true rfl) ?_
  intro p e s m below meth c hx hb hr hts hown hlocks hml hname hK hsz H locs hI ls hl
  subst hsz
  have hown : s.vm.findClass RX5 = some m.cls := hown
  have hl : lv_has ls 1 [(0, .ref (am 0 0))] := hl
  have f13 := hts (.fieldLink RX5 13 "DockyardSlotsModel" "havePower" "[Z") (by decide +kernel)
  have f17 := hts (.fieldLink RX5 17 "DockyardSlotsModel" "counts" "[I") (by decide +kernel)
  have f20 := hts (.fieldLink RX5 20 "DockyardSlotsModel" "slots" "[I") (by decide +kernel)
  have f23 := hts (.fieldLink RX5 23 "DockyardSlotsModel" "doorKinds" "[C") (by decide +kernel)
  have f27 := hts (.fieldLink RX5 27 "DockyardSlotsModel" "atDoors" "[I") (by decide +kernel)
  have f30 := hts (.fieldLink RX5 30 "DockyardSlotsModel" "hours" "[I") (by decide +kernel)
  have f33 := hts (.fieldLink RX5 33 "DockyardSlotsModel" "kinds" "[C") (by decide +kernel)
  have f36 := hts (.fieldLink RX5 36 "DockyardSlotsModel" "works" "[I") (by decide +kernel)
  have f39 := hts (.fieldLink RX5 39 "DockyardSlotsModel" "states" "[C") (by decide +kernel)
  have f42 := hts (.fieldLink RX5 42 "DockyardSlotsModel" "arrivals" "[I") (by decide +kernel)
  have f45 := hts (.fieldLink RX5 45 "DockyardSlotsModel" "docked" "[I") (by decide +kernel)
  have f48 := hts (.fieldLink RX5 48 "DockyardSlotsModel" "places" "[I") (by decide +kernel)
  have f51 := hts (.fieldLink RX5 51 "DockyardSlotsModel" "tolerance" "I") (by decide +kernel)
  have f55 := hts (.fieldLink RX5 55 "DockyardSlotsModel" "free" "I") (by decide +kernel)
  have f58 := hts (.fieldLink RX5 58 "DockyardSlotsModel" "rate" "I") (by decide +kernel)
  have f61 := hts (.fieldLink RX5 61 "DockyardSlotsModel" "paidHours" "I") (by decide +kernel)
  have f64 := hts (.fieldLink RX5 64 "DockyardSlotsModel" "laterRate" "I") (by decide +kernel)
  have f7 := hts (.fieldLink RX5 7 "DockyardSlotsModel" "capacities" "[I") (by decide +kernel)
  have LX5 : ∀ w ∈ wsX50, w.before [.ref (am 0 0)].toArray s = true := fun w h => hts w (List.mem_cons_of_mem _ (List.mem_append_right _ h))
  have hi : 0 < n 0 := by omega
  refine lv_aload_n hx hb dX5_init_0 rfl (lv_at hl 0 rfl) ?_
  refine W.objInit hx hb hown (hts (.methodLink RX5 1 objectInit) (by decide +kernel)) (hts (.instanceMethod objectInit) (by decide +kernel)) (hts (.code objectInit ⟨#[0xb1]⟩ 1 none) (by decide +kernel)) rfl (by rw [hml]; exact hl.1) rfl dX5_init_1 (Nat.le_of_ble_eq_true rfl) (Nat.le_of_ble_eq_true rfl) ?_
  refine W.eq (g2 := F0 m 4 ls []) rfl ?_
  refine lv_aload_n hx hb dX5_init_4 rfl (lv_at hl 0 rfl) ?_
  refine z_iconst hx hb dX5_init_5 ?_
  refine zna (κ := 1) hx hb (hts _ (by decide +kernel)) rfl rfl hK hI rfl rfl (by decide) (by decide) (Nat.le_of_ble_eq_true rfl) (Nat.le_of_ble_eq_true rfl) dX5_init_6 (fun _ h => h) (fun am1 H hm2 hI => ?_)
  obtain ⟨j5, ej5⟩ : ∃ z, z = n 1 := ⟨_, rfl⟩
  obtain ⟨n3, en3⟩ : ∃ z, z = upN n 1 (n 1 + 1) := ⟨_, rfl⟩
  obtain ⟨S4, eS4⟩ : ∃ z, z = up2 S 1 (n 1) (fun _ => 0) := ⟨_, rfl⟩
  rw [← en3, ← eS4] at hI
  have v6 : 0 < n3 0 := by rw [en3, upN_r (by decide)]; exact hi
  have r7 : am1 0 0 = am 0 0 := hm2 _ _ (by have := hi; omega)
  have v8 : j5 < n3 1 := by rw [en3, upN_s]; omega
  replace hl : lv_has ls 1 [(0, .ref (am1 0 0))] := by simp only [r7]; exact hl
  refine W.eq (g2 := F0 m 8 ls [.ref (am1 1 j5), .ref (am1 0 0)]) (by simp only [ej5, r7]) ?_
  have y1 : n 1 = 0 := hn 1 (by decide)
  have z1 : j5 = 0 := ej5.trans y1
  refine zpF_r (κ := 0) (i := 0) (k := 1) (t := 1) (j := j5) hx hb LX5 tyX5 tyX5_ok nmX5 hown hK hI v6 rfl rfl (by decide) rfl f7 (fun _ h9 => h9) rfl hname rfl rfl rfl v8 (by constructor <;> omega) dX5_init_8 (fun H locs hI => ?_)
  obtain ⟨S9, eS9⟩ : ∃ z, z = up3 S4 0 0 1 (j5 : Int) := ⟨_, rfl⟩
  rw [← eS9] at hI
  refine lv_aload_n hx hb dX5_init_11 rfl (lv_at hl 0 rfl) ?_
  refine z_iconst hx hb dX5_init_12 ?_
  refine zna (κ := 2) hx hb (hts _ (by decide +kernel)) rfl rfl hK hI rfl rfl (by decide) (by decide) (Nat.le_of_ble_eq_true rfl) (Nat.le_of_ble_eq_true rfl) dX5_init_13 (fun _ h => h) (fun am10 H hm11 hI => ?_)
  obtain ⟨j14, ej14⟩ : ∃ z, z = n3 2 := ⟨_, rfl⟩
  obtain ⟨n12, en12⟩ : ∃ z, z = upN n3 2 (n3 2 + 1) := ⟨_, rfl⟩
  obtain ⟨S13, eS13⟩ : ∃ z, z = up2 S9 2 (n3 2) (fun _ => 0) := ⟨_, rfl⟩
  rw [← en12, ← eS13] at hI
  have v15 : 0 < n12 0 := by rw [en12, upN_r (by decide)]; exact v6
  have r16 : am10 0 0 = am1 0 0 := hm11 _ _ (by have := v6; omega)
  have v17 : j5 < n12 1 := by rw [en12, upN_r (by decide)]; exact v8
  have r18 : am10 1 j5 = am1 1 j5 := hm11 _ _ (by have := v8; omega)
  have v19 : j14 < n12 2 := by rw [en12, upN_s]; omega
  replace hl : lv_has ls 1 [(0, .ref (am10 0 0))] := by simp only [r16, r18]; exact hl
  refine W.eq (g2 := F0 m 15 ls [.ref (am10 2 j14), .ref (am10 0 0)]) (by simp only [ej14, r16, r18]) ?_
  have y2 : n3 2 = 0 := by rw [en3, upN_r (by decide)]; exact hn 2 (by decide)
  have z2 : j14 = 0 := ej14.trans y2
  refine zpF_r (κ := 0) (i := 0) (k := 2) (t := 2) (j := j14) hx hb LX5 tyX5 tyX5_ok nmX5 hown hK hI v15 rfl rfl (by decide) rfl f13 (fun _ h9 => h9) rfl hname rfl rfl rfl v19 (by constructor <;> omega) dX5_init_15 (fun H locs hI => ?_)
  obtain ⟨S20, eS20⟩ : ∃ z, z = up3 S13 0 0 2 (j14 : Int) := ⟨_, rfl⟩
  rw [← eS20] at hI
  refine lv_aload_n hx hb dX5_init_18 rfl (lv_at hl 0 rfl) ?_
  refine z_iconst hx hb dX5_init_19 ?_
  refine zna (κ := 3) hx hb (hts _ (by decide +kernel)) rfl rfl hK hI rfl rfl (by decide) (by decide) (Nat.le_of_ble_eq_true rfl) (Nat.le_of_ble_eq_true rfl) dX5_init_20 (fun _ h => h) (fun am21 H hm22 hI => ?_)
  obtain ⟨j25, ej25⟩ : ∃ z, z = n12 3 := ⟨_, rfl⟩
  obtain ⟨n23, en23⟩ : ∃ z, z = upN n12 3 (n12 3 + 1) := ⟨_, rfl⟩
  obtain ⟨S24, eS24⟩ : ∃ z, z = up2 S20 3 (n12 3) (fun _ => 0) := ⟨_, rfl⟩
  rw [← en23, ← eS24] at hI
  have v26 : 0 < n23 0 := by rw [en23, upN_r (by decide)]; exact v15
  have r27 : am21 0 0 = am10 0 0 := hm22 _ _ (by have := v15; omega)
  have v28 : j5 < n23 1 := by rw [en23, upN_r (by decide)]; exact v17
  have r29 : am21 1 j5 = am10 1 j5 := hm22 _ _ (by have := v17; omega)
  have v30 : j14 < n23 2 := by rw [en23, upN_r (by decide)]; exact v19
  have r31 : am21 2 j14 = am10 2 j14 := hm22 _ _ (by have := v19; omega)
  have v32 : j25 < n23 3 := by rw [en23, upN_s]; omega
  replace hl : lv_has ls 1 [(0, .ref (am21 0 0))] := by simp only [r27, r29, r31]; exact hl
  refine W.eq (g2 := F0 m 22 ls [.ref (am21 3 j25), .ref (am21 0 0)]) (by simp only [ej25, r27, r29, r31]) ?_
  have y3 : n12 3 = 0 := by rw [en12, upN_r (by decide), en3, upN_r (by decide)]; exact hn 3 (by decide)
  have z3 : j25 = 0 := ej25.trans y3
  refine zpF_r (κ := 0) (i := 0) (k := 3) (t := 3) (j := j25) hx hb LX5 tyX5 tyX5_ok nmX5 hown hK hI v26 rfl rfl (by decide) rfl f17 (fun _ h9 => h9) rfl hname rfl rfl rfl v32 (by constructor <;> omega) dX5_init_22 (fun H locs hI => ?_)
  obtain ⟨S33, eS33⟩ : ∃ z, z = up3 S24 0 0 3 (j25 : Int) := ⟨_, rfl⟩
  rw [← eS33] at hI
  refine lv_aload_n hx hb dX5_init_25 rfl (lv_at hl 0 rfl) ?_
  refine z_bipush hx hb dX5_init_26 (by decide) ?_
  refine zna (κ := 4) hx hb (hts _ (by decide +kernel)) rfl rfl hK hI rfl rfl (by decide) (by decide) (Nat.le_of_ble_eq_true rfl) (Nat.le_of_ble_eq_true rfl) dX5_init_28 (fun _ h => h) (fun am34 H hm35 hI => ?_)
  obtain ⟨j38, ej38⟩ : ∃ z, z = n23 4 := ⟨_, rfl⟩
  obtain ⟨n36, en36⟩ : ∃ z, z = upN n23 4 (n23 4 + 1) := ⟨_, rfl⟩
  obtain ⟨S37, eS37⟩ : ∃ z, z = up2 S33 4 (n23 4) (fun _ => 0) := ⟨_, rfl⟩
  rw [← en36, ← eS37] at hI
  have v39 : 0 < n36 0 := by rw [en36, upN_r (by decide)]; exact v26
  have r40 : am34 0 0 = am21 0 0 := hm35 _ _ (by have := v26; omega)
  have v41 : j5 < n36 1 := by rw [en36, upN_r (by decide)]; exact v28
  have r42 : am34 1 j5 = am21 1 j5 := hm35 _ _ (by have := v28; omega)
  have v43 : j14 < n36 2 := by rw [en36, upN_r (by decide)]; exact v30
  have r44 : am34 2 j14 = am21 2 j14 := hm35 _ _ (by have := v30; omega)
  have v45 : j25 < n36 3 := by rw [en36, upN_r (by decide)]; exact v32
  have r46 : am34 3 j25 = am21 3 j25 := hm35 _ _ (by have := v32; omega)
  have v47 : j38 < n36 4 := by rw [en36, upN_s]; omega
  replace hl : lv_has ls 1 [(0, .ref (am34 0 0))] := by simp only [r40, r42, r44, r46]; exact hl
  refine W.eq (g2 := F0 m 30 ls [.ref (am34 4 j38), .ref (am34 0 0)]) (by simp only [ej38, r40, r42, r44, r46]) ?_
  have y4 : n23 4 = 0 := by rw [en23, upN_r (by decide), en12, upN_r (by decide), en3, upN_r (by decide)]; exact hn 4 (by decide)
  have z4 : j38 = 0 := ej38.trans y4
  refine zpF_r (κ := 0) (i := 0) (k := 4) (t := 4) (j := j38) hx hb LX5 tyX5 tyX5_ok nmX5 hown hK hI v39 rfl rfl (by decide) rfl f20 (fun _ h9 => h9) rfl hname rfl rfl rfl v47 (by constructor <;> omega) dX5_init_30 (fun H locs hI => ?_)
  obtain ⟨S48, eS48⟩ : ∃ z, z = up3 S37 0 0 4 (j38 : Int) := ⟨_, rfl⟩
  rw [← eS48] at hI
  refine lv_aload_n hx hb dX5_init_33 rfl (lv_at hl 0 rfl) ?_
  refine z_iconst hx hb dX5_init_34 ?_
  refine zna (κ := 6) hx hb (hts _ (by decide +kernel)) rfl rfl hK hI rfl rfl (by decide) (by decide) (Nat.le_of_ble_eq_true rfl) (Nat.le_of_ble_eq_true rfl) dX5_init_35 (fun _ h => h) (fun am49 H hm50 hI => ?_)
  obtain ⟨j53, ej53⟩ : ∃ z, z = n36 6 := ⟨_, rfl⟩
  obtain ⟨n51, en51⟩ : ∃ z, z = upN n36 6 (n36 6 + 1) := ⟨_, rfl⟩
  obtain ⟨S52, eS52⟩ : ∃ z, z = up2 S48 6 (n36 6) (fun _ => 0) := ⟨_, rfl⟩
  rw [← en51, ← eS52] at hI
  have v54 : 0 < n51 0 := by rw [en51, upN_r (by decide)]; exact v39
  have r55 : am49 0 0 = am34 0 0 := hm50 _ _ (by have := v39; omega)
  have v56 : j5 < n51 1 := by rw [en51, upN_r (by decide)]; exact v41
  have r57 : am49 1 j5 = am34 1 j5 := hm50 _ _ (by have := v41; omega)
  have v58 : j14 < n51 2 := by rw [en51, upN_r (by decide)]; exact v43
  have r59 : am49 2 j14 = am34 2 j14 := hm50 _ _ (by have := v43; omega)
  have v60 : j25 < n51 3 := by rw [en51, upN_r (by decide)]; exact v45
  have r61 : am49 3 j25 = am34 3 j25 := hm50 _ _ (by have := v45; omega)
  have v62 : j38 < n51 4 := by rw [en51, upN_r (by decide)]; exact v47
  have r63 : am49 4 j38 = am34 4 j38 := hm50 _ _ (by have := v47; omega)
  have v64 : j53 < n51 6 := by rw [en51, upN_s]; omega
  replace hl : lv_has ls 1 [(0, .ref (am49 0 0))] := by simp only [r55, r57, r59, r61, r63]; exact hl
  refine W.eq (g2 := F0 m 37 ls [.ref (am49 6 j53), .ref (am49 0 0)]) (by simp only [ej53, r55, r57, r59, r61, r63]) ?_
  have y6 : n36 6 = 0 := by rw [en36, upN_r (by decide), en23, upN_r (by decide), en12, upN_r (by decide), en3, upN_r (by decide)]; exact hn 6 (by decide)
  have z6 : j53 = 0 := ej53.trans y6
  refine zpF_r (κ := 0) (i := 0) (k := 6) (t := 6) (j := j53) hx hb LX5 tyX5 tyX5_ok nmX5 hown hK hI v54 rfl rfl (by decide) rfl f23 (fun _ h9 => h9) rfl hname rfl rfl rfl v64 (by constructor <;> omega) dX5_init_37 (fun H locs hI => ?_)
  obtain ⟨S65, eS65⟩ : ∃ z, z = up3 S52 0 0 6 (j53 : Int) := ⟨_, rfl⟩
  rw [← eS65] at hI
  refine lv_aload_n hx hb dX5_init_40 rfl (lv_at hl 0 rfl) ?_
  refine z_iconst hx hb dX5_init_41 ?_
  refine zna (κ := 7) hx hb (hts _ (by decide +kernel)) rfl rfl hK hI rfl rfl (by decide) (by decide) (Nat.le_of_ble_eq_true rfl) (Nat.le_of_ble_eq_true rfl) dX5_init_42 (fun _ h => h) (fun am66 H hm67 hI => ?_)
  obtain ⟨j70, ej70⟩ : ∃ z, z = n51 7 := ⟨_, rfl⟩
  obtain ⟨n68, en68⟩ : ∃ z, z = upN n51 7 (n51 7 + 1) := ⟨_, rfl⟩
  obtain ⟨S69, eS69⟩ : ∃ z, z = up2 S65 7 (n51 7) (fun _ => 0) := ⟨_, rfl⟩
  rw [← en68, ← eS69] at hI
  have v71 : 0 < n68 0 := by rw [en68, upN_r (by decide)]; exact v54
  have r72 : am66 0 0 = am49 0 0 := hm67 _ _ (by have := v54; omega)
  have v73 : j5 < n68 1 := by rw [en68, upN_r (by decide)]; exact v56
  have r74 : am66 1 j5 = am49 1 j5 := hm67 _ _ (by have := v56; omega)
  have v75 : j14 < n68 2 := by rw [en68, upN_r (by decide)]; exact v58
  have r76 : am66 2 j14 = am49 2 j14 := hm67 _ _ (by have := v58; omega)
  have v77 : j25 < n68 3 := by rw [en68, upN_r (by decide)]; exact v60
  have r78 : am66 3 j25 = am49 3 j25 := hm67 _ _ (by have := v60; omega)
  have v79 : j38 < n68 4 := by rw [en68, upN_r (by decide)]; exact v62
  have r80 : am66 4 j38 = am49 4 j38 := hm67 _ _ (by have := v62; omega)
  have v81 : j53 < n68 6 := by rw [en68, upN_r (by decide)]; exact v64
  have r82 : am66 6 j53 = am49 6 j53 := hm67 _ _ (by have := v64; omega)
  have v83 : j70 < n68 7 := by rw [en68, upN_s]; omega
  replace hl : lv_has ls 1 [(0, .ref (am66 0 0))] := by simp only [r72, r74, r76, r78, r80, r82]; exact hl
  refine W.eq (g2 := F0 m 44 ls [.ref (am66 7 j70), .ref (am66 0 0)]) (by simp only [ej70, r72, r74, r76, r78, r80, r82]) ?_
  have y7 : n51 7 = 0 := by rw [en51, upN_r (by decide), en36, upN_r (by decide), en23, upN_r (by decide), en12, upN_r (by decide), en3, upN_r (by decide)]; exact hn 7 (by decide)
  have z7 : j70 = 0 := ej70.trans y7
  refine zpF_r (κ := 0) (i := 0) (k := 7) (t := 7) (j := j70) hx hb LX5 tyX5 tyX5_ok nmX5 hown hK hI v71 rfl rfl (by decide) rfl f27 (fun _ h9 => h9) rfl hname rfl rfl rfl v83 (by constructor <;> omega) dX5_init_44 (fun H locs hI => ?_)
  obtain ⟨S84, eS84⟩ : ∃ z, z = up3 S69 0 0 7 (j70 : Int) := ⟨_, rfl⟩
  rw [← eS84] at hI
  refine lv_aload_n hx hb dX5_init_47 rfl (lv_at hl 0 rfl) ?_
  refine z_bipush hx hb dX5_init_48 (by decide) ?_
  refine zna (κ := 9) hx hb (hts _ (by decide +kernel)) rfl rfl hK hI rfl rfl (by decide) (by decide) (Nat.le_of_ble_eq_true rfl) (Nat.le_of_ble_eq_true rfl) dX5_init_50 (fun _ h => h) (fun am85 H hm86 hI => ?_)
  obtain ⟨j89, ej89⟩ : ∃ z, z = n68 9 := ⟨_, rfl⟩
  obtain ⟨n87, en87⟩ : ∃ z, z = upN n68 9 (n68 9 + 1) := ⟨_, rfl⟩
  obtain ⟨S88, eS88⟩ : ∃ z, z = up2 S84 9 (n68 9) (fun _ => 0) := ⟨_, rfl⟩
  rw [← en87, ← eS88] at hI
  have v90 : 0 < n87 0 := by rw [en87, upN_r (by decide)]; exact v71
  have r91 : am85 0 0 = am66 0 0 := hm86 _ _ (by have := v71; omega)
  have v92 : j5 < n87 1 := by rw [en87, upN_r (by decide)]; exact v73
  have r93 : am85 1 j5 = am66 1 j5 := hm86 _ _ (by have := v73; omega)
  have v94 : j14 < n87 2 := by rw [en87, upN_r (by decide)]; exact v75
  have r95 : am85 2 j14 = am66 2 j14 := hm86 _ _ (by have := v75; omega)
  have v96 : j25 < n87 3 := by rw [en87, upN_r (by decide)]; exact v77
  have r97 : am85 3 j25 = am66 3 j25 := hm86 _ _ (by have := v77; omega)
  have v98 : j38 < n87 4 := by rw [en87, upN_r (by decide)]; exact v79
  have r99 : am85 4 j38 = am66 4 j38 := hm86 _ _ (by have := v79; omega)
  have v100 : j53 < n87 6 := by rw [en87, upN_r (by decide)]; exact v81
  have r101 : am85 6 j53 = am66 6 j53 := hm86 _ _ (by have := v81; omega)
  have v102 : j70 < n87 7 := by rw [en87, upN_r (by decide)]; exact v83
  have r103 : am85 7 j70 = am66 7 j70 := hm86 _ _ (by have := v83; omega)
  have v104 : j89 < n87 9 := by rw [en87, upN_s]; omega
  replace hl : lv_has ls 1 [(0, .ref (am85 0 0))] := by simp only [r91, r93, r95, r97, r99, r101, r103]; exact hl
  refine W.eq (g2 := F0 m 52 ls [.ref (am85 9 j89), .ref (am85 0 0)]) (by simp only [ej89, r91, r93, r95, r97, r99, r101, r103]) ?_
  have y9 : n68 9 = 0 := by rw [en68, upN_r (by decide), en51, upN_r (by decide), en36, upN_r (by decide), en23, upN_r (by decide), en12, upN_r (by decide), en3, upN_r (by decide)]; exact hn 9 (by decide)
  have z9 : j89 = 0 := ej89.trans y9
  refine zpF_r (κ := 0) (i := 0) (k := 9) (t := 9) (j := j89) hx hb LX5 tyX5 tyX5_ok nmX5 hown hK hI v90 rfl rfl (by decide) rfl f30 (fun _ h9 => h9) rfl hname rfl rfl rfl v104 (by constructor <;> omega) dX5_init_52 (fun H locs hI => ?_)
  obtain ⟨S105, eS105⟩ : ∃ z, z = up3 S88 0 0 9 (j89 : Int) := ⟨_, rfl⟩
  rw [← eS105] at hI
  refine lv_aload_n hx hb dX5_init_55 rfl (lv_at hl 0 rfl) ?_
  refine z_bipush hx hb dX5_init_56 (by decide) ?_
  refine zna (κ := 10) hx hb (hts _ (by decide +kernel)) rfl rfl hK hI rfl rfl (by decide) (by decide) (Nat.le_of_ble_eq_true rfl) (Nat.le_of_ble_eq_true rfl) dX5_init_58 (fun _ h => h) (fun am106 H hm107 hI => ?_)
  obtain ⟨j110, ej110⟩ : ∃ z, z = n87 10 := ⟨_, rfl⟩
  obtain ⟨n108, en108⟩ : ∃ z, z = upN n87 10 (n87 10 + 1) := ⟨_, rfl⟩
  obtain ⟨S109, eS109⟩ : ∃ z, z = up2 S105 10 (n87 10) (fun _ => 0) := ⟨_, rfl⟩
  rw [← en108, ← eS109] at hI
  have v111 : 0 < n108 0 := by rw [en108, upN_r (by decide)]; exact v90
  have r112 : am106 0 0 = am85 0 0 := hm107 _ _ (by have := v90; omega)
  have v113 : j5 < n108 1 := by rw [en108, upN_r (by decide)]; exact v92
  have r114 : am106 1 j5 = am85 1 j5 := hm107 _ _ (by have := v92; omega)
  have v115 : j14 < n108 2 := by rw [en108, upN_r (by decide)]; exact v94
  have r116 : am106 2 j14 = am85 2 j14 := hm107 _ _ (by have := v94; omega)
  have v117 : j25 < n108 3 := by rw [en108, upN_r (by decide)]; exact v96
  have r118 : am106 3 j25 = am85 3 j25 := hm107 _ _ (by have := v96; omega)
  have v119 : j38 < n108 4 := by rw [en108, upN_r (by decide)]; exact v98
  have r120 : am106 4 j38 = am85 4 j38 := hm107 _ _ (by have := v98; omega)
  have v121 : j53 < n108 6 := by rw [en108, upN_r (by decide)]; exact v100
  have r122 : am106 6 j53 = am85 6 j53 := hm107 _ _ (by have := v100; omega)
  have v123 : j70 < n108 7 := by rw [en108, upN_r (by decide)]; exact v102
  have r124 : am106 7 j70 = am85 7 j70 := hm107 _ _ (by have := v102; omega)
  have v125 : j89 < n108 9 := by rw [en108, upN_r (by decide)]; exact v104
  have r126 : am106 9 j89 = am85 9 j89 := hm107 _ _ (by have := v104; omega)
  have v127 : j110 < n108 10 := by rw [en108, upN_s]; omega
  replace hl : lv_has ls 1 [(0, .ref (am106 0 0))] := by simp only [r112, r114, r116, r118, r120, r122, r124, r126]; exact hl
  refine W.eq (g2 := F0 m 60 ls [.ref (am106 10 j110), .ref (am106 0 0)]) (by simp only [ej110, r112, r114, r116, r118, r120, r122, r124, r126]) ?_
  have y10 : n87 10 = 0 := by rw [en87, upN_r (by decide), en68, upN_r (by decide), en51, upN_r (by decide), en36, upN_r (by decide), en23, upN_r (by decide), en12, upN_r (by decide), en3, upN_r (by decide)]; exact hn 10 (by decide)
  have z10 : j110 = 0 := ej110.trans y10
  refine zpF_r (κ := 0) (i := 0) (k := 10) (t := 10) (j := j110) hx hb LX5 tyX5 tyX5_ok nmX5 hown hK hI v111 rfl rfl (by decide) rfl f33 (fun _ h9 => h9) rfl hname rfl rfl rfl v127 (by constructor <;> omega) dX5_init_60 (fun H locs hI => ?_)
  obtain ⟨S128, eS128⟩ : ∃ z, z = up3 S109 0 0 10 (j110 : Int) := ⟨_, rfl⟩
  rw [← eS128] at hI
  refine lv_aload_n hx hb dX5_init_63 rfl (lv_at hl 0 rfl) ?_
  refine z_bipush hx hb dX5_init_64 (by decide) ?_
  refine zna (κ := 11) hx hb (hts _ (by decide +kernel)) rfl rfl hK hI rfl rfl (by decide) (by decide) (Nat.le_of_ble_eq_true rfl) (Nat.le_of_ble_eq_true rfl) dX5_init_66 (fun _ h => h) (fun am129 H hm130 hI => ?_)
  obtain ⟨j133, ej133⟩ : ∃ z, z = n108 11 := ⟨_, rfl⟩
  obtain ⟨n131, en131⟩ : ∃ z, z = upN n108 11 (n108 11 + 1) := ⟨_, rfl⟩
  obtain ⟨S132, eS132⟩ : ∃ z, z = up2 S128 11 (n108 11) (fun _ => 0) := ⟨_, rfl⟩
  rw [← en131, ← eS132] at hI
  have v134 : 0 < n131 0 := by rw [en131, upN_r (by decide)]; exact v111
  have r135 : am129 0 0 = am106 0 0 := hm130 _ _ (by have := v111; omega)
  have v136 : j5 < n131 1 := by rw [en131, upN_r (by decide)]; exact v113
  have r137 : am129 1 j5 = am106 1 j5 := hm130 _ _ (by have := v113; omega)
  have v138 : j14 < n131 2 := by rw [en131, upN_r (by decide)]; exact v115
  have r139 : am129 2 j14 = am106 2 j14 := hm130 _ _ (by have := v115; omega)
  have v140 : j25 < n131 3 := by rw [en131, upN_r (by decide)]; exact v117
  have r141 : am129 3 j25 = am106 3 j25 := hm130 _ _ (by have := v117; omega)
  have v142 : j38 < n131 4 := by rw [en131, upN_r (by decide)]; exact v119
  have r143 : am129 4 j38 = am106 4 j38 := hm130 _ _ (by have := v119; omega)
  have v144 : j53 < n131 6 := by rw [en131, upN_r (by decide)]; exact v121
  have r145 : am129 6 j53 = am106 6 j53 := hm130 _ _ (by have := v121; omega)
  have v146 : j70 < n131 7 := by rw [en131, upN_r (by decide)]; exact v123
  have r147 : am129 7 j70 = am106 7 j70 := hm130 _ _ (by have := v123; omega)
  have v148 : j89 < n131 9 := by rw [en131, upN_r (by decide)]; exact v125
  have r149 : am129 9 j89 = am106 9 j89 := hm130 _ _ (by have := v125; omega)
  have v150 : j110 < n131 10 := by rw [en131, upN_r (by decide)]; exact v127
  have r151 : am129 10 j110 = am106 10 j110 := hm130 _ _ (by have := v127; omega)
  have v152 : j133 < n131 11 := by rw [en131, upN_s]; omega
  replace hl : lv_has ls 1 [(0, .ref (am129 0 0))] := by simp only [r135, r137, r139, r141, r143, r145, r147, r149, r151]; exact hl
  refine W.eq (g2 := F0 m 68 ls [.ref (am129 11 j133), .ref (am129 0 0)]) (by simp only [ej133, r135, r137, r139, r141, r143, r145, r147, r149, r151]) ?_
  have y11 : n108 11 = 0 := by rw [en108, upN_r (by decide), en87, upN_r (by decide), en68, upN_r (by decide), en51, upN_r (by decide), en36, upN_r (by decide), en23, upN_r (by decide), en12, upN_r (by decide), en3, upN_r (by decide)]; exact hn 11 (by decide)
  have z11 : j133 = 0 := ej133.trans y11
  refine zpF_r (κ := 0) (i := 0) (k := 11) (t := 11) (j := j133) hx hb LX5 tyX5 tyX5_ok nmX5 hown hK hI v134 rfl rfl (by decide) rfl f36 (fun _ h9 => h9) rfl hname rfl rfl rfl v152 (by constructor <;> omega) dX5_init_68 (fun H locs hI => ?_)
  obtain ⟨S153, eS153⟩ : ∃ z, z = up3 S132 0 0 11 (j133 : Int) := ⟨_, rfl⟩
  rw [← eS153] at hI
  refine lv_aload_n hx hb dX5_init_71 rfl (lv_at hl 0 rfl) ?_
  refine z_bipush hx hb dX5_init_72 (by decide) ?_
  refine zna (κ := 12) hx hb (hts _ (by decide +kernel)) rfl rfl hK hI rfl rfl (by decide) (by decide) (Nat.le_of_ble_eq_true rfl) (Nat.le_of_ble_eq_true rfl) dX5_init_74 (fun _ h => h) (fun am154 H hm155 hI => ?_)
  obtain ⟨j158, ej158⟩ : ∃ z, z = n131 12 := ⟨_, rfl⟩
  obtain ⟨n156, en156⟩ : ∃ z, z = upN n131 12 (n131 12 + 1) := ⟨_, rfl⟩
  obtain ⟨S157, eS157⟩ : ∃ z, z = up2 S153 12 (n131 12) (fun _ => 0) := ⟨_, rfl⟩
  rw [← en156, ← eS157] at hI
  have v159 : 0 < n156 0 := by rw [en156, upN_r (by decide)]; exact v134
  have r160 : am154 0 0 = am129 0 0 := hm155 _ _ (by have := v134; omega)
  have v161 : j5 < n156 1 := by rw [en156, upN_r (by decide)]; exact v136
  have r162 : am154 1 j5 = am129 1 j5 := hm155 _ _ (by have := v136; omega)
  have v163 : j14 < n156 2 := by rw [en156, upN_r (by decide)]; exact v138
  have r164 : am154 2 j14 = am129 2 j14 := hm155 _ _ (by have := v138; omega)
  have v165 : j25 < n156 3 := by rw [en156, upN_r (by decide)]; exact v140
  have r166 : am154 3 j25 = am129 3 j25 := hm155 _ _ (by have := v140; omega)
  have v167 : j38 < n156 4 := by rw [en156, upN_r (by decide)]; exact v142
  have r168 : am154 4 j38 = am129 4 j38 := hm155 _ _ (by have := v142; omega)
  have v169 : j53 < n156 6 := by rw [en156, upN_r (by decide)]; exact v144
  have r170 : am154 6 j53 = am129 6 j53 := hm155 _ _ (by have := v144; omega)
  have v171 : j70 < n156 7 := by rw [en156, upN_r (by decide)]; exact v146
  have r172 : am154 7 j70 = am129 7 j70 := hm155 _ _ (by have := v146; omega)
  have v173 : j89 < n156 9 := by rw [en156, upN_r (by decide)]; exact v148
  have r174 : am154 9 j89 = am129 9 j89 := hm155 _ _ (by have := v148; omega)
  have v175 : j110 < n156 10 := by rw [en156, upN_r (by decide)]; exact v150
  have r176 : am154 10 j110 = am129 10 j110 := hm155 _ _ (by have := v150; omega)
  have v177 : j133 < n156 11 := by rw [en156, upN_r (by decide)]; exact v152
  have r178 : am154 11 j133 = am129 11 j133 := hm155 _ _ (by have := v152; omega)
  have v179 : j158 < n156 12 := by rw [en156, upN_s]; omega
  replace hl : lv_has ls 1 [(0, .ref (am154 0 0))] := by simp only [r160, r162, r164, r166, r168, r170, r172, r174, r176, r178]; exact hl
  refine W.eq (g2 := F0 m 76 ls [.ref (am154 12 j158), .ref (am154 0 0)]) (by simp only [ej158, r160, r162, r164, r166, r168, r170, r172, r174, r176, r178]) ?_
  have y12 : n131 12 = 0 := by rw [en131, upN_r (by decide), en108, upN_r (by decide), en87, upN_r (by decide), en68, upN_r (by decide), en51, upN_r (by decide), en36, upN_r (by decide), en23, upN_r (by decide), en12, upN_r (by decide), en3, upN_r (by decide)]; exact hn 12 (by decide)
  have z12 : j158 = 0 := ej158.trans y12
  refine zpF_r (κ := 0) (i := 0) (k := 12) (t := 12) (j := j158) hx hb LX5 tyX5 tyX5_ok nmX5 hown hK hI v159 rfl rfl (by decide) rfl f39 (fun _ h9 => h9) rfl hname rfl rfl rfl v179 (by constructor <;> omega) dX5_init_76 (fun H locs hI => ?_)
  obtain ⟨S180, eS180⟩ : ∃ z, z = up3 S157 0 0 12 (j158 : Int) := ⟨_, rfl⟩
  rw [← eS180] at hI
  refine lv_aload_n hx hb dX5_init_79 rfl (lv_at hl 0 rfl) ?_
  refine z_bipush hx hb dX5_init_80 (by decide) ?_
  refine zna (κ := 13) hx hb (hts _ (by decide +kernel)) rfl rfl hK hI rfl rfl (by decide) (by decide) (Nat.le_of_ble_eq_true rfl) (Nat.le_of_ble_eq_true rfl) dX5_init_82 (fun _ h => h) (fun am181 H hm182 hI => ?_)
  obtain ⟨j185, ej185⟩ : ∃ z, z = n156 13 := ⟨_, rfl⟩
  obtain ⟨n183, en183⟩ : ∃ z, z = upN n156 13 (n156 13 + 1) := ⟨_, rfl⟩
  obtain ⟨S184, eS184⟩ : ∃ z, z = up2 S180 13 (n156 13) (fun _ => 0) := ⟨_, rfl⟩
  rw [← en183, ← eS184] at hI
  have v186 : 0 < n183 0 := by rw [en183, upN_r (by decide)]; exact v159
  have r187 : am181 0 0 = am154 0 0 := hm182 _ _ (by have := v159; omega)
  have v188 : j5 < n183 1 := by rw [en183, upN_r (by decide)]; exact v161
  have r189 : am181 1 j5 = am154 1 j5 := hm182 _ _ (by have := v161; omega)
  have v190 : j14 < n183 2 := by rw [en183, upN_r (by decide)]; exact v163
  have r191 : am181 2 j14 = am154 2 j14 := hm182 _ _ (by have := v163; omega)
  have v192 : j25 < n183 3 := by rw [en183, upN_r (by decide)]; exact v165
  have r193 : am181 3 j25 = am154 3 j25 := hm182 _ _ (by have := v165; omega)
  have v194 : j38 < n183 4 := by rw [en183, upN_r (by decide)]; exact v167
  have r195 : am181 4 j38 = am154 4 j38 := hm182 _ _ (by have := v167; omega)
  have v196 : j53 < n183 6 := by rw [en183, upN_r (by decide)]; exact v169
  have r197 : am181 6 j53 = am154 6 j53 := hm182 _ _ (by have := v169; omega)
  have v198 : j70 < n183 7 := by rw [en183, upN_r (by decide)]; exact v171
  have r199 : am181 7 j70 = am154 7 j70 := hm182 _ _ (by have := v171; omega)
  have v200 : j89 < n183 9 := by rw [en183, upN_r (by decide)]; exact v173
  have r201 : am181 9 j89 = am154 9 j89 := hm182 _ _ (by have := v173; omega)
  have v202 : j110 < n183 10 := by rw [en183, upN_r (by decide)]; exact v175
  have r203 : am181 10 j110 = am154 10 j110 := hm182 _ _ (by have := v175; omega)
  have v204 : j133 < n183 11 := by rw [en183, upN_r (by decide)]; exact v177
  have r205 : am181 11 j133 = am154 11 j133 := hm182 _ _ (by have := v177; omega)
  have v206 : j158 < n183 12 := by rw [en183, upN_r (by decide)]; exact v179
  have r207 : am181 12 j158 = am154 12 j158 := hm182 _ _ (by have := v179; omega)
  have v208 : j185 < n183 13 := by rw [en183, upN_s]; omega
  replace hl : lv_has ls 1 [(0, .ref (am181 0 0))] := by simp only [r187, r189, r191, r193, r195, r197, r199, r201, r203, r205, r207]; exact hl
  refine W.eq (g2 := F0 m 84 ls [.ref (am181 13 j185), .ref (am181 0 0)]) (by simp only [ej185, r187, r189, r191, r193, r195, r197, r199, r201, r203, r205, r207]) ?_
  have y13 : n156 13 = 0 := by rw [en156, upN_r (by decide), en131, upN_r (by decide), en108, upN_r (by decide), en87, upN_r (by decide), en68, upN_r (by decide), en51, upN_r (by decide), en36, upN_r (by decide), en23, upN_r (by decide), en12, upN_r (by decide), en3, upN_r (by decide)]; exact hn 13 (by decide)
  have z13 : j185 = 0 := ej185.trans y13
  refine zpF_r (κ := 0) (i := 0) (k := 13) (t := 13) (j := j185) hx hb LX5 tyX5 tyX5_ok nmX5 hown hK hI v186 rfl rfl (by decide) rfl f42 (fun _ h9 => h9) rfl hname rfl rfl rfl v208 (by constructor <;> omega) dX5_init_84 (fun H locs hI => ?_)
  obtain ⟨S209, eS209⟩ : ∃ z, z = up3 S184 0 0 13 (j185 : Int) := ⟨_, rfl⟩
  rw [← eS209] at hI
  refine lv_aload_n hx hb dX5_init_87 rfl (lv_at hl 0 rfl) ?_
  refine z_bipush hx hb dX5_init_88 (by decide) ?_
  refine zna (κ := 14) hx hb (hts _ (by decide +kernel)) rfl rfl hK hI rfl rfl (by decide) (by decide) (Nat.le_of_ble_eq_true rfl) (Nat.le_of_ble_eq_true rfl) dX5_init_90 (fun _ h => h) (fun am210 H hm211 hI => ?_)
  obtain ⟨j214, ej214⟩ : ∃ z, z = n183 14 := ⟨_, rfl⟩
  obtain ⟨n212, en212⟩ : ∃ z, z = upN n183 14 (n183 14 + 1) := ⟨_, rfl⟩
  obtain ⟨S213, eS213⟩ : ∃ z, z = up2 S209 14 (n183 14) (fun _ => 0) := ⟨_, rfl⟩
  rw [← en212, ← eS213] at hI
  have v215 : 0 < n212 0 := by rw [en212, upN_r (by decide)]; exact v186
  have r216 : am210 0 0 = am181 0 0 := hm211 _ _ (by have := v186; omega)
  have v217 : j5 < n212 1 := by rw [en212, upN_r (by decide)]; exact v188
  have r218 : am210 1 j5 = am181 1 j5 := hm211 _ _ (by have := v188; omega)
  have v219 : j14 < n212 2 := by rw [en212, upN_r (by decide)]; exact v190
  have r220 : am210 2 j14 = am181 2 j14 := hm211 _ _ (by have := v190; omega)
  have v221 : j25 < n212 3 := by rw [en212, upN_r (by decide)]; exact v192
  have r222 : am210 3 j25 = am181 3 j25 := hm211 _ _ (by have := v192; omega)
  have v223 : j38 < n212 4 := by rw [en212, upN_r (by decide)]; exact v194
  have r224 : am210 4 j38 = am181 4 j38 := hm211 _ _ (by have := v194; omega)
  have v225 : j53 < n212 6 := by rw [en212, upN_r (by decide)]; exact v196
  have r226 : am210 6 j53 = am181 6 j53 := hm211 _ _ (by have := v196; omega)
  have v227 : j70 < n212 7 := by rw [en212, upN_r (by decide)]; exact v198
  have r228 : am210 7 j70 = am181 7 j70 := hm211 _ _ (by have := v198; omega)
  have v229 : j89 < n212 9 := by rw [en212, upN_r (by decide)]; exact v200
  have r230 : am210 9 j89 = am181 9 j89 := hm211 _ _ (by have := v200; omega)
  have v231 : j110 < n212 10 := by rw [en212, upN_r (by decide)]; exact v202
  have r232 : am210 10 j110 = am181 10 j110 := hm211 _ _ (by have := v202; omega)
  have v233 : j133 < n212 11 := by rw [en212, upN_r (by decide)]; exact v204
  have r234 : am210 11 j133 = am181 11 j133 := hm211 _ _ (by have := v204; omega)
  have v235 : j158 < n212 12 := by rw [en212, upN_r (by decide)]; exact v206
  have r236 : am210 12 j158 = am181 12 j158 := hm211 _ _ (by have := v206; omega)
  have v237 : j185 < n212 13 := by rw [en212, upN_r (by decide)]; exact v208
  have r238 : am210 13 j185 = am181 13 j185 := hm211 _ _ (by have := v208; omega)
  have v239 : j214 < n212 14 := by rw [en212, upN_s]; omega
  replace hl : lv_has ls 1 [(0, .ref (am210 0 0))] := by simp only [r216, r218, r220, r222, r224, r226, r228, r230, r232, r234, r236, r238]; exact hl
  refine W.eq (g2 := F0 m 92 ls [.ref (am210 14 j214), .ref (am210 0 0)]) (by simp only [ej214, r216, r218, r220, r222, r224, r226, r228, r230, r232, r234, r236, r238]) ?_
  have y14 : n183 14 = 0 := by rw [en183, upN_r (by decide), en156, upN_r (by decide), en131, upN_r (by decide), en108, upN_r (by decide), en87, upN_r (by decide), en68, upN_r (by decide), en51, upN_r (by decide), en36, upN_r (by decide), en23, upN_r (by decide), en12, upN_r (by decide), en3, upN_r (by decide)]; exact hn 14 (by decide)
  have z14 : j214 = 0 := ej214.trans y14
  refine zpF_r (κ := 0) (i := 0) (k := 14) (t := 14) (j := j214) hx hb LX5 tyX5 tyX5_ok nmX5 hown hK hI v215 rfl rfl (by decide) rfl f45 (fun _ h9 => h9) rfl hname rfl rfl rfl v239 (by constructor <;> omega) dX5_init_92 (fun H locs hI => ?_)
  obtain ⟨S240, eS240⟩ : ∃ z, z = up3 S213 0 0 14 (j214 : Int) := ⟨_, rfl⟩
  rw [← eS240] at hI
  refine lv_aload_n hx hb dX5_init_95 rfl (lv_at hl 0 rfl) ?_
  refine z_bipush hx hb dX5_init_96 (by decide) ?_
  refine zna (κ := 15) hx hb (hts _ (by decide +kernel)) rfl rfl hK hI rfl rfl (by decide) (by decide) (Nat.le_of_ble_eq_true rfl) (Nat.le_of_ble_eq_true rfl) dX5_init_98 (fun _ h => h) (fun am241 H hm242 hI => ?_)
  obtain ⟨j245, ej245⟩ : ∃ z, z = n212 15 := ⟨_, rfl⟩
  obtain ⟨n243, en243⟩ : ∃ z, z = upN n212 15 (n212 15 + 1) := ⟨_, rfl⟩
  obtain ⟨S244, eS244⟩ : ∃ z, z = up2 S240 15 (n212 15) (fun _ => 0) := ⟨_, rfl⟩
  rw [← en243, ← eS244] at hI
  have v246 : 0 < n243 0 := by rw [en243, upN_r (by decide)]; exact v215
  have r247 : am241 0 0 = am210 0 0 := hm242 _ _ (by have := v215; omega)
  have v248 : j5 < n243 1 := by rw [en243, upN_r (by decide)]; exact v217
  have r249 : am241 1 j5 = am210 1 j5 := hm242 _ _ (by have := v217; omega)
  have v250 : j14 < n243 2 := by rw [en243, upN_r (by decide)]; exact v219
  have r251 : am241 2 j14 = am210 2 j14 := hm242 _ _ (by have := v219; omega)
  have v252 : j25 < n243 3 := by rw [en243, upN_r (by decide)]; exact v221
  have r253 : am241 3 j25 = am210 3 j25 := hm242 _ _ (by have := v221; omega)
  have v254 : j38 < n243 4 := by rw [en243, upN_r (by decide)]; exact v223
  have r255 : am241 4 j38 = am210 4 j38 := hm242 _ _ (by have := v223; omega)
  have v256 : j53 < n243 6 := by rw [en243, upN_r (by decide)]; exact v225
  have r257 : am241 6 j53 = am210 6 j53 := hm242 _ _ (by have := v225; omega)
  have v258 : j70 < n243 7 := by rw [en243, upN_r (by decide)]; exact v227
  have r259 : am241 7 j70 = am210 7 j70 := hm242 _ _ (by have := v227; omega)
  have v260 : j89 < n243 9 := by rw [en243, upN_r (by decide)]; exact v229
  have r261 : am241 9 j89 = am210 9 j89 := hm242 _ _ (by have := v229; omega)
  have v262 : j110 < n243 10 := by rw [en243, upN_r (by decide)]; exact v231
  have r263 : am241 10 j110 = am210 10 j110 := hm242 _ _ (by have := v231; omega)
  have v264 : j133 < n243 11 := by rw [en243, upN_r (by decide)]; exact v233
  have r265 : am241 11 j133 = am210 11 j133 := hm242 _ _ (by have := v233; omega)
  have v266 : j158 < n243 12 := by rw [en243, upN_r (by decide)]; exact v235
  have r267 : am241 12 j158 = am210 12 j158 := hm242 _ _ (by have := v235; omega)
  have v268 : j185 < n243 13 := by rw [en243, upN_r (by decide)]; exact v237
  have r269 : am241 13 j185 = am210 13 j185 := hm242 _ _ (by have := v237; omega)
  have v270 : j214 < n243 14 := by rw [en243, upN_r (by decide)]; exact v239
  have r271 : am241 14 j214 = am210 14 j214 := hm242 _ _ (by have := v239; omega)
  have v272 : j245 < n243 15 := by rw [en243, upN_s]; omega
  replace hl : lv_has ls 1 [(0, .ref (am241 0 0))] := by simp only [r247, r249, r251, r253, r255, r257, r259, r261, r263, r265, r267, r269, r271]; exact hl
  refine W.eq (g2 := F0 m 100 ls [.ref (am241 15 j245), .ref (am241 0 0)]) (by simp only [ej245, r247, r249, r251, r253, r255, r257, r259, r261, r263, r265, r267, r269, r271]) ?_
  have y15 : n212 15 = 0 := by rw [en212, upN_r (by decide), en183, upN_r (by decide), en156, upN_r (by decide), en131, upN_r (by decide), en108, upN_r (by decide), en87, upN_r (by decide), en68, upN_r (by decide), en51, upN_r (by decide), en36, upN_r (by decide), en23, upN_r (by decide), en12, upN_r (by decide), en3, upN_r (by decide)]; exact hn 15 (by decide)
  have z15 : j245 = 0 := ej245.trans y15
  refine zpF_r (κ := 0) (i := 0) (k := 15) (t := 15) (j := j245) hx hb LX5 tyX5 tyX5_ok nmX5 hown hK hI v246 rfl rfl (by decide) rfl f48 (fun _ h9 => h9) rfl hname rfl rfl rfl v272 (by constructor <;> omega) dX5_init_100 (fun H locs hI => ?_)
  obtain ⟨S273, eS273⟩ : ∃ z, z = up3 S244 0 0 15 (j245 : Int) := ⟨_, rfl⟩
  rw [← eS273] at hI
  refine lv_aload_n hx hb dX5_init_103 rfl (lv_at hl 0 rfl) ?_
  refine z_iconst hx hb dX5_init_104 ?_
  refine zp_i (κ := 0) (i := 0) (k := 16) hx hb LX5 tyX5 tyX5_ok nmX5 hown hK hI v246 rfl rfl (by decide) rfl f51 (fun _ h9 => h9) rfl rfl rfl (by omega) dX5_init_105 (fun H locs hI => ?_)
  obtain ⟨S274, eS274⟩ : ∃ z, z = up3 S273 0 0 16 1 := ⟨_, rfl⟩
  rw [← eS274] at hI
  refine lv_aload_n hx hb dX5_init_108 rfl (lv_at hl 0 rfl) ?_
  refine z_iconst hx hb dX5_init_109 ?_
  refine zp_i (κ := 0) (i := 0) (k := 17) hx hb LX5 tyX5 tyX5_ok nmX5 hown hK hI v246 rfl rfl (by decide) rfl f55 (fun _ h9 => h9) rfl rfl rfl (by omega) dX5_init_110 (fun H locs hI => ?_)
  obtain ⟨S275, eS275⟩ : ∃ z, z = up3 S274 0 0 17 2 := ⟨_, rfl⟩
  rw [← eS275] at hI
  refine lv_aload_n hx hb dX5_init_113 rfl (lv_at hl 0 rfl) ?_
  refine z_bipush hx hb dX5_init_114 (by decide) ?_
  refine zp_i (κ := 0) (i := 0) (k := 18) hx hb LX5 tyX5 tyX5_ok nmX5 hown hK hI v246 rfl rfl (by decide) rfl f58 (fun _ h9 => h9) rfl rfl rfl (by omega) dX5_init_116 (fun H locs hI => ?_)
  obtain ⟨S276, eS276⟩ : ∃ z, z = up3 S275 0 0 18 30 := ⟨_, rfl⟩
  rw [← eS276] at hI
  refine lv_aload_n hx hb dX5_init_119 rfl (lv_at hl 0 rfl) ?_
  refine z_iconst hx hb dX5_init_120 ?_
  refine zp_i (κ := 0) (i := 0) (k := 19) hx hb LX5 tyX5 tyX5_ok nmX5 hown hK hI v246 rfl rfl (by decide) rfl f61 (fun _ h9 => h9) rfl rfl rfl (by omega) dX5_init_121 (fun H locs hI => ?_)
  obtain ⟨S277, eS277⟩ : ∃ z, z = up3 S276 0 0 19 4 := ⟨_, rfl⟩
  rw [← eS277] at hI
  refine lv_aload_n hx hb dX5_init_124 rfl (lv_at hl 0 rfl) ?_
  refine z_bipush hx hb dX5_init_125 (by decide) ?_
  refine zp_i (κ := 0) (i := 0) (k := 20) hx hb LX5 tyX5 tyX5_ok nmX5 hown hK hI v246 rfl rfl (by decide) rfl f64 (fun _ h9 => h9) rfl rfl rfl (by omega) dX5_init_127 (fun H locs hI => ?_)
  obtain ⟨S278, eS278⟩ : ∃ z, z = up3 S277 0 0 20 50 := ⟨_, rfl⟩
  rw [← eS278] at hI
  have hle0 : ∀ a, n a ≤ n3 a := by rw [en3]; exact upN_le
  have hle1 : ∀ a, n a ≤ n12 a := fun a => Nat.le_trans (hle0 a) (by rw [en12]; exact upN_le a)
  have hle2 : ∀ a, n a ≤ n23 a := fun a => Nat.le_trans (hle1 a) (by rw [en23]; exact upN_le a)
  have hle3 : ∀ a, n a ≤ n36 a := fun a => Nat.le_trans (hle2 a) (by rw [en36]; exact upN_le a)
  have hle4 : ∀ a, n a ≤ n51 a := fun a => Nat.le_trans (hle3 a) (by rw [en51]; exact upN_le a)
  have hle5 : ∀ a, n a ≤ n68 a := fun a => Nat.le_trans (hle4 a) (by rw [en68]; exact upN_le a)
  have hle6 : ∀ a, n a ≤ n87 a := fun a => Nat.le_trans (hle5 a) (by rw [en87]; exact upN_le a)
  have hle7 : ∀ a, n a ≤ n108 a := fun a => Nat.le_trans (hle6 a) (by rw [en108]; exact upN_le a)
  have hle8 : ∀ a, n a ≤ n131 a := fun a => Nat.le_trans (hle7 a) (by rw [en131]; exact upN_le a)
  have hle9 : ∀ a, n a ≤ n156 a := fun a => Nat.le_trans (hle8 a) (by rw [en156]; exact upN_le a)
  have hle10 : ∀ a, n a ≤ n183 a := fun a => Nat.le_trans (hle9 a) (by rw [en183]; exact upN_le a)
  have hle11 : ∀ a, n a ≤ n212 a := fun a => Nat.le_trans (hle10 a) (by rw [en212]; exact upN_le a)
  have hle12 : ∀ a, n a ≤ n243 a := fun a => Nat.le_trans (hle11 a) (by rw [en243]; exact upN_le a)
  have F0 : S278 0 0 0 = 0 := by rw [eS278, up3_n (by omega), eS277, up3_n (by omega), eS276, up3_n (by omega), eS275, up3_n (by omega), eS274, up3_n (by omega), eS273, up3_n (by omega), eS244, up2_r3 (by omega), eS240, up3_n (by omega), eS213, up2_r3 (by omega), eS209, up3_n (by omega), eS184, up2_r3 (by omega), eS180, up3_n (by omega), eS157, up2_r3 (by omega), eS153, up3_n (by omega), eS132, up2_r3 (by omega), eS128, up3_n (by omega), eS109, up2_r3 (by omega), eS105, up3_n (by omega), eS88, up2_r3 (by omega), eS84, up3_n (by omega), eS69, up2_r3 (by omega), eS65, up3_n (by omega), eS52, up2_r3 (by omega), eS48, up3_n (by omega), eS37, up2_r3 (by omega), eS33, up3_n (by omega), eS24, up2_r3 (by omega), eS20, up3_n (by omega), eS13, up2_r3 (by omega), eS9, up3_n (by omega), eS4, up2_r3 (by omega)]; exact hS _
  have F1 : S278 0 0 1 = 0 := by rw [eS278, up3_n (by omega), eS277, up3_n (by omega), eS276, up3_n (by omega), eS275, up3_n (by omega), eS274, up3_n (by omega), eS273, up3_n (by omega), eS244, up2_r3 (by omega), eS240, up3_n (by omega), eS213, up2_r3 (by omega), eS209, up3_n (by omega), eS184, up2_r3 (by omega), eS180, up3_n (by omega), eS157, up2_r3 (by omega), eS153, up3_n (by omega), eS132, up2_r3 (by omega), eS128, up3_n (by omega), eS109, up2_r3 (by omega), eS105, up3_n (by omega), eS88, up2_r3 (by omega), eS84, up3_n (by omega), eS69, up2_r3 (by omega), eS65, up3_n (by omega), eS52, up2_r3 (by omega), eS48, up3_n (by omega), eS37, up2_r3 (by omega), eS33, up3_n (by omega), eS24, up2_r3 (by omega), eS20, up3_n (by omega), eS13, up2_r3 (by omega), eS9, up3_s]; omega
  have F2 : S278 0 0 2 = 0 := by rw [eS278, up3_n (by omega), eS277, up3_n (by omega), eS276, up3_n (by omega), eS275, up3_n (by omega), eS274, up3_n (by omega), eS273, up3_n (by omega), eS244, up2_r3 (by omega), eS240, up3_n (by omega), eS213, up2_r3 (by omega), eS209, up3_n (by omega), eS184, up2_r3 (by omega), eS180, up3_n (by omega), eS157, up2_r3 (by omega), eS153, up3_n (by omega), eS132, up2_r3 (by omega), eS128, up3_n (by omega), eS109, up2_r3 (by omega), eS105, up3_n (by omega), eS88, up2_r3 (by omega), eS84, up3_n (by omega), eS69, up2_r3 (by omega), eS65, up3_n (by omega), eS52, up2_r3 (by omega), eS48, up3_n (by omega), eS37, up2_r3 (by omega), eS33, up3_n (by omega), eS24, up2_r3 (by omega), eS20, up3_s]; omega
  have F3 : S278 0 0 3 = 0 := by rw [eS278, up3_n (by omega), eS277, up3_n (by omega), eS276, up3_n (by omega), eS275, up3_n (by omega), eS274, up3_n (by omega), eS273, up3_n (by omega), eS244, up2_r3 (by omega), eS240, up3_n (by omega), eS213, up2_r3 (by omega), eS209, up3_n (by omega), eS184, up2_r3 (by omega), eS180, up3_n (by omega), eS157, up2_r3 (by omega), eS153, up3_n (by omega), eS132, up2_r3 (by omega), eS128, up3_n (by omega), eS109, up2_r3 (by omega), eS105, up3_n (by omega), eS88, up2_r3 (by omega), eS84, up3_n (by omega), eS69, up2_r3 (by omega), eS65, up3_n (by omega), eS52, up2_r3 (by omega), eS48, up3_n (by omega), eS37, up2_r3 (by omega), eS33, up3_s]; omega
  have F4 : S278 0 0 4 = 0 := by rw [eS278, up3_n (by omega), eS277, up3_n (by omega), eS276, up3_n (by omega), eS275, up3_n (by omega), eS274, up3_n (by omega), eS273, up3_n (by omega), eS244, up2_r3 (by omega), eS240, up3_n (by omega), eS213, up2_r3 (by omega), eS209, up3_n (by omega), eS184, up2_r3 (by omega), eS180, up3_n (by omega), eS157, up2_r3 (by omega), eS153, up3_n (by omega), eS132, up2_r3 (by omega), eS128, up3_n (by omega), eS109, up2_r3 (by omega), eS105, up3_n (by omega), eS88, up2_r3 (by omega), eS84, up3_n (by omega), eS69, up2_r3 (by omega), eS65, up3_n (by omega), eS52, up2_r3 (by omega), eS48, up3_s]; omega
  have F5 : S278 0 0 5 = 0 := by rw [eS278, up3_n (by omega), eS277, up3_n (by omega), eS276, up3_n (by omega), eS275, up3_n (by omega), eS274, up3_n (by omega), eS273, up3_n (by omega), eS244, up2_r3 (by omega), eS240, up3_n (by omega), eS213, up2_r3 (by omega), eS209, up3_n (by omega), eS184, up2_r3 (by omega), eS180, up3_n (by omega), eS157, up2_r3 (by omega), eS153, up3_n (by omega), eS132, up2_r3 (by omega), eS128, up3_n (by omega), eS109, up2_r3 (by omega), eS105, up3_n (by omega), eS88, up2_r3 (by omega), eS84, up3_n (by omega), eS69, up2_r3 (by omega), eS65, up3_n (by omega), eS52, up2_r3 (by omega), eS48, up3_n (by omega), eS37, up2_r3 (by omega), eS33, up3_n (by omega), eS24, up2_r3 (by omega), eS20, up3_n (by omega), eS13, up2_r3 (by omega), eS9, up3_n (by omega), eS4, up2_r3 (by omega)]; exact hS _
  have F6 : S278 0 0 6 = 0 := by rw [eS278, up3_n (by omega), eS277, up3_n (by omega), eS276, up3_n (by omega), eS275, up3_n (by omega), eS274, up3_n (by omega), eS273, up3_n (by omega), eS244, up2_r3 (by omega), eS240, up3_n (by omega), eS213, up2_r3 (by omega), eS209, up3_n (by omega), eS184, up2_r3 (by omega), eS180, up3_n (by omega), eS157, up2_r3 (by omega), eS153, up3_n (by omega), eS132, up2_r3 (by omega), eS128, up3_n (by omega), eS109, up2_r3 (by omega), eS105, up3_n (by omega), eS88, up2_r3 (by omega), eS84, up3_n (by omega), eS69, up2_r3 (by omega), eS65, up3_s]; omega
  have F7 : S278 0 0 7 = 0 := by rw [eS278, up3_n (by omega), eS277, up3_n (by omega), eS276, up3_n (by omega), eS275, up3_n (by omega), eS274, up3_n (by omega), eS273, up3_n (by omega), eS244, up2_r3 (by omega), eS240, up3_n (by omega), eS213, up2_r3 (by omega), eS209, up3_n (by omega), eS184, up2_r3 (by omega), eS180, up3_n (by omega), eS157, up2_r3 (by omega), eS153, up3_n (by omega), eS132, up2_r3 (by omega), eS128, up3_n (by omega), eS109, up2_r3 (by omega), eS105, up3_n (by omega), eS88, up2_r3 (by omega), eS84, up3_s]; omega
  have F8 : S278 0 0 8 = 0 := by rw [eS278, up3_n (by omega), eS277, up3_n (by omega), eS276, up3_n (by omega), eS275, up3_n (by omega), eS274, up3_n (by omega), eS273, up3_n (by omega), eS244, up2_r3 (by omega), eS240, up3_n (by omega), eS213, up2_r3 (by omega), eS209, up3_n (by omega), eS184, up2_r3 (by omega), eS180, up3_n (by omega), eS157, up2_r3 (by omega), eS153, up3_n (by omega), eS132, up2_r3 (by omega), eS128, up3_n (by omega), eS109, up2_r3 (by omega), eS105, up3_n (by omega), eS88, up2_r3 (by omega), eS84, up3_n (by omega), eS69, up2_r3 (by omega), eS65, up3_n (by omega), eS52, up2_r3 (by omega), eS48, up3_n (by omega), eS37, up2_r3 (by omega), eS33, up3_n (by omega), eS24, up2_r3 (by omega), eS20, up3_n (by omega), eS13, up2_r3 (by omega), eS9, up3_n (by omega), eS4, up2_r3 (by omega)]; exact hS _
  have F9 : S278 0 0 9 = 0 := by rw [eS278, up3_n (by omega), eS277, up3_n (by omega), eS276, up3_n (by omega), eS275, up3_n (by omega), eS274, up3_n (by omega), eS273, up3_n (by omega), eS244, up2_r3 (by omega), eS240, up3_n (by omega), eS213, up2_r3 (by omega), eS209, up3_n (by omega), eS184, up2_r3 (by omega), eS180, up3_n (by omega), eS157, up2_r3 (by omega), eS153, up3_n (by omega), eS132, up2_r3 (by omega), eS128, up3_n (by omega), eS109, up2_r3 (by omega), eS105, up3_s]; omega
  have F10 : S278 0 0 10 = 0 := by rw [eS278, up3_n (by omega), eS277, up3_n (by omega), eS276, up3_n (by omega), eS275, up3_n (by omega), eS274, up3_n (by omega), eS273, up3_n (by omega), eS244, up2_r3 (by omega), eS240, up3_n (by omega), eS213, up2_r3 (by omega), eS209, up3_n (by omega), eS184, up2_r3 (by omega), eS180, up3_n (by omega), eS157, up2_r3 (by omega), eS153, up3_n (by omega), eS132, up2_r3 (by omega), eS128, up3_s]; omega
  have F11 : S278 0 0 11 = 0 := by rw [eS278, up3_n (by omega), eS277, up3_n (by omega), eS276, up3_n (by omega), eS275, up3_n (by omega), eS274, up3_n (by omega), eS273, up3_n (by omega), eS244, up2_r3 (by omega), eS240, up3_n (by omega), eS213, up2_r3 (by omega), eS209, up3_n (by omega), eS184, up2_r3 (by omega), eS180, up3_n (by omega), eS157, up2_r3 (by omega), eS153, up3_s]; omega
  have F12 : S278 0 0 12 = 0 := by rw [eS278, up3_n (by omega), eS277, up3_n (by omega), eS276, up3_n (by omega), eS275, up3_n (by omega), eS274, up3_n (by omega), eS273, up3_n (by omega), eS244, up2_r3 (by omega), eS240, up3_n (by omega), eS213, up2_r3 (by omega), eS209, up3_n (by omega), eS184, up2_r3 (by omega), eS180, up3_s]; omega
  have F13 : S278 0 0 13 = 0 := by rw [eS278, up3_n (by omega), eS277, up3_n (by omega), eS276, up3_n (by omega), eS275, up3_n (by omega), eS274, up3_n (by omega), eS273, up3_n (by omega), eS244, up2_r3 (by omega), eS240, up3_n (by omega), eS213, up2_r3 (by omega), eS209, up3_s]; omega
  have F14 : S278 0 0 14 = 0 := by rw [eS278, up3_n (by omega), eS277, up3_n (by omega), eS276, up3_n (by omega), eS275, up3_n (by omega), eS274, up3_n (by omega), eS273, up3_n (by omega), eS244, up2_r3 (by omega), eS240, up3_s]; omega
  have F15 : S278 0 0 15 = 0 := by rw [eS278, up3_n (by omega), eS277, up3_n (by omega), eS276, up3_n (by omega), eS275, up3_n (by omega), eS274, up3_n (by omega), eS273, up3_s]; omega
  have F16 : S278 0 0 16 = 1 := by rw [eS278, up3_n (by omega), eS277, up3_n (by omega), eS276, up3_n (by omega), eS275, up3_n (by omega), eS274, up3_s]
  have F17 : S278 0 0 17 = 2 := by rw [eS278, up3_n (by omega), eS277, up3_n (by omega), eS276, up3_n (by omega), eS275, up3_s]
  have F18 : S278 0 0 18 = 30 := by rw [eS278, up3_n (by omega), eS277, up3_n (by omega), eS276, up3_s]
  have F19 : S278 0 0 19 = 4 := by rw [eS278, up3_n (by omega), eS277, up3_s]
  have F20 : S278 0 0 20 = 50 := by rw [eS278, up3_s]
  have F21 : S278 0 0 21 = 0 := by rw [eS278, up3_n (by omega), eS277, up3_n (by omega), eS276, up3_n (by omega), eS275, up3_n (by omega), eS274, up3_n (by omega), eS273, up3_n (by omega), eS244, up2_r3 (by omega), eS240, up3_n (by omega), eS213, up2_r3 (by omega), eS209, up3_n (by omega), eS184, up2_r3 (by omega), eS180, up3_n (by omega), eS157, up2_r3 (by omega), eS153, up3_n (by omega), eS132, up2_r3 (by omega), eS128, up3_n (by omega), eS109, up2_r3 (by omega), eS105, up3_n (by omega), eS88, up2_r3 (by omega), eS84, up3_n (by omega), eS69, up2_r3 (by omega), eS65, up3_n (by omega), eS52, up2_r3 (by omega), eS48, up3_n (by omega), eS37, up2_r3 (by omega), eS33, up3_n (by omega), eS24, up2_r3 (by omega), eS20, up3_n (by omega), eS13, up2_r3 (by omega), eS9, up3_n (by omega), eS4, up2_r3 (by omega)]; exact hS _
  have F22 : S278 0 0 22 = 0 := by rw [eS278, up3_n (by omega), eS277, up3_n (by omega), eS276, up3_n (by omega), eS275, up3_n (by omega), eS274, up3_n (by omega), eS273, up3_n (by omega), eS244, up2_r3 (by omega), eS240, up3_n (by omega), eS213, up2_r3 (by omega), eS209, up3_n (by omega), eS184, up2_r3 (by omega), eS180, up3_n (by omega), eS157, up2_r3 (by omega), eS153, up3_n (by omega), eS132, up2_r3 (by omega), eS128, up3_n (by omega), eS109, up2_r3 (by omega), eS105, up3_n (by omega), eS88, up2_r3 (by omega), eS84, up3_n (by omega), eS69, up2_r3 (by omega), eS65, up3_n (by omega), eS52, up2_r3 (by omega), eS48, up3_n (by omega), eS37, up2_r3 (by omega), eS33, up3_n (by omega), eS24, up2_r3 (by omega), eS20, up3_n (by omega), eS13, up2_r3 (by omega), eS9, up3_n (by omega), eS4, up2_r3 (by omega)]; exact hS _
  have F23 : S278 0 0 23 = 0 := by rw [eS278, up3_n (by omega), eS277, up3_n (by omega), eS276, up3_n (by omega), eS275, up3_n (by omega), eS274, up3_n (by omega), eS273, up3_n (by omega), eS244, up2_r3 (by omega), eS240, up3_n (by omega), eS213, up2_r3 (by omega), eS209, up3_n (by omega), eS184, up2_r3 (by omega), eS180, up3_n (by omega), eS157, up2_r3 (by omega), eS153, up3_n (by omega), eS132, up2_r3 (by omega), eS128, up3_n (by omega), eS109, up2_r3 (by omega), eS105, up3_n (by omega), eS88, up2_r3 (by omega), eS84, up3_n (by omega), eS69, up2_r3 (by omega), eS65, up3_n (by omega), eS52, up2_r3 (by omega), eS48, up3_n (by omega), eS37, up2_r3 (by omega), eS33, up3_n (by omega), eS24, up2_r3 (by omega), eS20, up3_n (by omega), eS13, up2_r3 (by omega), eS9, up3_n (by omega), eS4, up2_r3 (by omega)]; exact hS _
  have F24 : S278 0 0 24 = 0 := by rw [eS278, up3_n (by omega), eS277, up3_n (by omega), eS276, up3_n (by omega), eS275, up3_n (by omega), eS274, up3_n (by omega), eS273, up3_n (by omega), eS244, up2_r3 (by omega), eS240, up3_n (by omega), eS213, up2_r3 (by omega), eS209, up3_n (by omega), eS184, up2_r3 (by omega), eS180, up3_n (by omega), eS157, up2_r3 (by omega), eS153, up3_n (by omega), eS132, up2_r3 (by omega), eS128, up3_n (by omega), eS109, up2_r3 (by omega), eS105, up3_n (by omega), eS88, up2_r3 (by omega), eS84, up3_n (by omega), eS69, up2_r3 (by omega), eS65, up3_n (by omega), eS52, up2_r3 (by omega), eS48, up3_n (by omega), eS37, up2_r3 (by omega), eS33, up3_n (by omega), eS24, up2_r3 (by omega), eS20, up3_n (by omega), eS13, up2_r3 (by omega), eS9, up3_n (by omega), eS4, up2_r3 (by omega)]; exact hS _
  have A1 : ∀ k, S278 1 0 k = 0 := by intro k; rw [eS278, up3_n (by omega), eS277, up3_n (by omega), eS276, up3_n (by omega), eS275, up3_n (by omega), eS274, up3_n (by omega), eS273, up3_n (by omega), eS244, up2_r3 (by omega), eS240, up3_n (by omega), eS213, up2_r3 (by omega), eS209, up3_n (by omega), eS184, up2_r3 (by omega), eS180, up3_n (by omega), eS157, up2_r3 (by omega), eS153, up3_n (by omega), eS132, up2_r3 (by omega), eS128, up3_n (by omega), eS109, up2_r3 (by omega), eS105, up3_n (by omega), eS88, up2_r3 (by omega), eS84, up3_n (by omega), eS69, up2_r3 (by omega), eS65, up3_n (by omega), eS52, up2_r3 (by omega), eS48, up3_n (by omega), eS37, up2_r3 (by omega), eS33, up3_n (by omega), eS24, up2_r3 (by omega), eS20, up3_n (by omega), eS13, up2_r3 (by omega), eS9, up3_n (by omega), eS4, y1]; simp [up2]
  have P1 : 0 < n243 1 := by rw [en243, upN_r (by decide), en212, upN_r (by decide), en183, upN_r (by decide), en156, upN_r (by decide), en131, upN_r (by decide), en108, upN_r (by decide), en87, upN_r (by decide), en68, upN_r (by decide), en51, upN_r (by decide), en36, upN_r (by decide), en23, upN_r (by decide), en12, upN_r (by decide), en3, upN_s]; omega
  have A2 : ∀ k, S278 2 0 k = 0 := by intro k; rw [eS278, up3_n (by omega), eS277, up3_n (by omega), eS276, up3_n (by omega), eS275, up3_n (by omega), eS274, up3_n (by omega), eS273, up3_n (by omega), eS244, up2_r3 (by omega), eS240, up3_n (by omega), eS213, up2_r3 (by omega), eS209, up3_n (by omega), eS184, up2_r3 (by omega), eS180, up3_n (by omega), eS157, up2_r3 (by omega), eS153, up3_n (by omega), eS132, up2_r3 (by omega), eS128, up3_n (by omega), eS109, up2_r3 (by omega), eS105, up3_n (by omega), eS88, up2_r3 (by omega), eS84, up3_n (by omega), eS69, up2_r3 (by omega), eS65, up3_n (by omega), eS52, up2_r3 (by omega), eS48, up3_n (by omega), eS37, up2_r3 (by omega), eS33, up3_n (by omega), eS24, up2_r3 (by omega), eS20, up3_n (by omega), eS13, y2]; simp [up2]
  have P2 : 0 < n243 2 := by rw [en243, upN_r (by decide), en212, upN_r (by decide), en183, upN_r (by decide), en156, upN_r (by decide), en131, upN_r (by decide), en108, upN_r (by decide), en87, upN_r (by decide), en68, upN_r (by decide), en51, upN_r (by decide), en36, upN_r (by decide), en23, upN_r (by decide), en12, upN_s]; omega
  have A3 : ∀ k, S278 3 0 k = 0 := by intro k; rw [eS278, up3_n (by omega), eS277, up3_n (by omega), eS276, up3_n (by omega), eS275, up3_n (by omega), eS274, up3_n (by omega), eS273, up3_n (by omega), eS244, up2_r3 (by omega), eS240, up3_n (by omega), eS213, up2_r3 (by omega), eS209, up3_n (by omega), eS184, up2_r3 (by omega), eS180, up3_n (by omega), eS157, up2_r3 (by omega), eS153, up3_n (by omega), eS132, up2_r3 (by omega), eS128, up3_n (by omega), eS109, up2_r3 (by omega), eS105, up3_n (by omega), eS88, up2_r3 (by omega), eS84, up3_n (by omega), eS69, up2_r3 (by omega), eS65, up3_n (by omega), eS52, up2_r3 (by omega), eS48, up3_n (by omega), eS37, up2_r3 (by omega), eS33, up3_n (by omega), eS24, y3]; simp [up2]
  have P3 : 0 < n243 3 := by rw [en243, upN_r (by decide), en212, upN_r (by decide), en183, upN_r (by decide), en156, upN_r (by decide), en131, upN_r (by decide), en108, upN_r (by decide), en87, upN_r (by decide), en68, upN_r (by decide), en51, upN_r (by decide), en36, upN_r (by decide), en23, upN_s]; omega
  have A4 : ∀ k, S278 4 0 k = 0 := by intro k; rw [eS278, up3_n (by omega), eS277, up3_n (by omega), eS276, up3_n (by omega), eS275, up3_n (by omega), eS274, up3_n (by omega), eS273, up3_n (by omega), eS244, up2_r3 (by omega), eS240, up3_n (by omega), eS213, up2_r3 (by omega), eS209, up3_n (by omega), eS184, up2_r3 (by omega), eS180, up3_n (by omega), eS157, up2_r3 (by omega), eS153, up3_n (by omega), eS132, up2_r3 (by omega), eS128, up3_n (by omega), eS109, up2_r3 (by omega), eS105, up3_n (by omega), eS88, up2_r3 (by omega), eS84, up3_n (by omega), eS69, up2_r3 (by omega), eS65, up3_n (by omega), eS52, up2_r3 (by omega), eS48, up3_n (by omega), eS37, y4]; simp [up2]
  have P4 : 0 < n243 4 := by rw [en243, upN_r (by decide), en212, upN_r (by decide), en183, upN_r (by decide), en156, upN_r (by decide), en131, upN_r (by decide), en108, upN_r (by decide), en87, upN_r (by decide), en68, upN_r (by decide), en51, upN_r (by decide), en36, upN_s]; omega
  have A6 : ∀ k, S278 6 0 k = 0 := by intro k; rw [eS278, up3_n (by omega), eS277, up3_n (by omega), eS276, up3_n (by omega), eS275, up3_n (by omega), eS274, up3_n (by omega), eS273, up3_n (by omega), eS244, up2_r3 (by omega), eS240, up3_n (by omega), eS213, up2_r3 (by omega), eS209, up3_n (by omega), eS184, up2_r3 (by omega), eS180, up3_n (by omega), eS157, up2_r3 (by omega), eS153, up3_n (by omega), eS132, up2_r3 (by omega), eS128, up3_n (by omega), eS109, up2_r3 (by omega), eS105, up3_n (by omega), eS88, up2_r3 (by omega), eS84, up3_n (by omega), eS69, up2_r3 (by omega), eS65, up3_n (by omega), eS52, y6]; simp [up2]
  have P6 : 0 < n243 6 := by rw [en243, upN_r (by decide), en212, upN_r (by decide), en183, upN_r (by decide), en156, upN_r (by decide), en131, upN_r (by decide), en108, upN_r (by decide), en87, upN_r (by decide), en68, upN_r (by decide), en51, upN_s]; omega
  have A7 : ∀ k, S278 7 0 k = 0 := by intro k; rw [eS278, up3_n (by omega), eS277, up3_n (by omega), eS276, up3_n (by omega), eS275, up3_n (by omega), eS274, up3_n (by omega), eS273, up3_n (by omega), eS244, up2_r3 (by omega), eS240, up3_n (by omega), eS213, up2_r3 (by omega), eS209, up3_n (by omega), eS184, up2_r3 (by omega), eS180, up3_n (by omega), eS157, up2_r3 (by omega), eS153, up3_n (by omega), eS132, up2_r3 (by omega), eS128, up3_n (by omega), eS109, up2_r3 (by omega), eS105, up3_n (by omega), eS88, up2_r3 (by omega), eS84, up3_n (by omega), eS69, y7]; simp [up2]
  have P7 : 0 < n243 7 := by rw [en243, upN_r (by decide), en212, upN_r (by decide), en183, upN_r (by decide), en156, upN_r (by decide), en131, upN_r (by decide), en108, upN_r (by decide), en87, upN_r (by decide), en68, upN_s]; omega
  have A9 : ∀ k, S278 9 0 k = 0 := by intro k; rw [eS278, up3_n (by omega), eS277, up3_n (by omega), eS276, up3_n (by omega), eS275, up3_n (by omega), eS274, up3_n (by omega), eS273, up3_n (by omega), eS244, up2_r3 (by omega), eS240, up3_n (by omega), eS213, up2_r3 (by omega), eS209, up3_n (by omega), eS184, up2_r3 (by omega), eS180, up3_n (by omega), eS157, up2_r3 (by omega), eS153, up3_n (by omega), eS132, up2_r3 (by omega), eS128, up3_n (by omega), eS109, up2_r3 (by omega), eS105, up3_n (by omega), eS88, y9]; simp [up2]
  have P9 : 0 < n243 9 := by rw [en243, upN_r (by decide), en212, upN_r (by decide), en183, upN_r (by decide), en156, upN_r (by decide), en131, upN_r (by decide), en108, upN_r (by decide), en87, upN_s]; omega
  have A10 : ∀ k, S278 10 0 k = 0 := by intro k; rw [eS278, up3_n (by omega), eS277, up3_n (by omega), eS276, up3_n (by omega), eS275, up3_n (by omega), eS274, up3_n (by omega), eS273, up3_n (by omega), eS244, up2_r3 (by omega), eS240, up3_n (by omega), eS213, up2_r3 (by omega), eS209, up3_n (by omega), eS184, up2_r3 (by omega), eS180, up3_n (by omega), eS157, up2_r3 (by omega), eS153, up3_n (by omega), eS132, up2_r3 (by omega), eS128, up3_n (by omega), eS109, y10]; simp [up2]
  have P10 : 0 < n243 10 := by rw [en243, upN_r (by decide), en212, upN_r (by decide), en183, upN_r (by decide), en156, upN_r (by decide), en131, upN_r (by decide), en108, upN_s]; omega
  have A11 : ∀ k, S278 11 0 k = 0 := by intro k; rw [eS278, up3_n (by omega), eS277, up3_n (by omega), eS276, up3_n (by omega), eS275, up3_n (by omega), eS274, up3_n (by omega), eS273, up3_n (by omega), eS244, up2_r3 (by omega), eS240, up3_n (by omega), eS213, up2_r3 (by omega), eS209, up3_n (by omega), eS184, up2_r3 (by omega), eS180, up3_n (by omega), eS157, up2_r3 (by omega), eS153, up3_n (by omega), eS132, y11]; simp [up2]
  have P11 : 0 < n243 11 := by rw [en243, upN_r (by decide), en212, upN_r (by decide), en183, upN_r (by decide), en156, upN_r (by decide), en131, upN_s]; omega
  have A12 : ∀ k, S278 12 0 k = 0 := by intro k; rw [eS278, up3_n (by omega), eS277, up3_n (by omega), eS276, up3_n (by omega), eS275, up3_n (by omega), eS274, up3_n (by omega), eS273, up3_n (by omega), eS244, up2_r3 (by omega), eS240, up3_n (by omega), eS213, up2_r3 (by omega), eS209, up3_n (by omega), eS184, up2_r3 (by omega), eS180, up3_n (by omega), eS157, y12]; simp [up2]
  have P12 : 0 < n243 12 := by rw [en243, upN_r (by decide), en212, upN_r (by decide), en183, upN_r (by decide), en156, upN_s]; omega
  have A13 : ∀ k, S278 13 0 k = 0 := by intro k; rw [eS278, up3_n (by omega), eS277, up3_n (by omega), eS276, up3_n (by omega), eS275, up3_n (by omega), eS274, up3_n (by omega), eS273, up3_n (by omega), eS244, up2_r3 (by omega), eS240, up3_n (by omega), eS213, up2_r3 (by omega), eS209, up3_n (by omega), eS184, y13]; simp [up2]
  have P13 : 0 < n243 13 := by rw [en243, upN_r (by decide), en212, upN_r (by decide), en183, upN_s]; omega
  have A14 : ∀ k, S278 14 0 k = 0 := by intro k; rw [eS278, up3_n (by omega), eS277, up3_n (by omega), eS276, up3_n (by omega), eS275, up3_n (by omega), eS274, up3_n (by omega), eS273, up3_n (by omega), eS244, up2_r3 (by omega), eS240, up3_n (by omega), eS213, y14]; simp [up2]
  have P14 : 0 < n243 14 := by rw [en243, upN_r (by decide), en212, upN_s]; omega
  have A15 : ∀ k, S278 15 0 k = 0 := by intro k; rw [eS278, up3_n (by omega), eS277, up3_n (by omega), eS276, up3_n (by omega), eS275, up3_n (by omega), eS274, up3_n (by omega), eS273, up3_n (by omega), eS244, y15]; simp [up2]
  have P15 : 0 < n243 15 := by rw [en243, upN_s]; omega
  have P0 : 0 < n243 0 := by rw [en243, upN_r (by decide), en212, upN_r (by decide), en183, upN_r (by decide), en156, upN_r (by decide), en131, upN_r (by decide), en108, upN_r (by decide), en87, upN_r (by decide), en68, upN_r (by decide), en51, upN_r (by decide), en36, upN_r (by decide), en23, upN_r (by decide), en12, upN_r (by decide), en3, upN_r (by decide)]; omega
  have hfr0 : mFresh n243 S278 := by
    refine ⟨⟨fun κ hκ => ?_, fun f hf => ?_⟩, ⟨F0, F5, F8, F21, F22, F23, F24⟩, ⟨F16, F17, F18, F19, F20⟩, fun κ hκ hne k => ?_⟩
    · simp only [mKs, List.mem_cons, List.not_mem_nil, or_false] at hκ
      rcases hκ with rfl | rfl | rfl | rfl | rfl | rfl | rfl | rfl | rfl | rfl | rfl | rfl | rfl | rfl <;> assumption
    · simp only [mSp, beq_self_eq_true, Bool.true_and, Bool.or_eq_true, beq_iff_eq] at hf
      have hf2 : f = 1 ∨ f = 2 ∨ f = 3 ∨ f = 4 ∨ f = 6 ∨ f = 7 ∨ f = 9 ∨ f = 10 ∨ f = 11 ∨ f = 12 ∨ f = 13 ∨ f = 14 ∨ f = 15 := by omega
      rcases hf2 with rfl | rfl | rfl | rfl | rfl | rfl | rfl | rfl | rfl | rfl | rfl | rfl | rfl <;> (show _ = (0 : Int); assumption)
    · simp only [mKs, List.mem_cons, List.not_mem_nil, or_false] at hκ
      rcases hκ with rfl | rfl | rfl | rfl | rfl | rfl | rfl | rfl | rfl | rfl | rfl | rfl | rfl | rfl
      · exact absurd rfl hne
      · exact A1 k
      · exact A2 k
      · exact A3 k
      · exact A4 k
      · exact A6 k
      · exact A7 k
      · exact A9 k
      · exact A10 k
      · exact A11 k
      · exact A12 k
      · exact A13 k
      · exact A14 k
      · exact A15 k
  exact (ze_v (u' := (n243, am241, S278)) hx hb hr hI ⟨am241, n243, S278, (((((((((((((amK.new hm2).trans hle0 (amK.new hm11)).trans hle1 (amK.new hm22)).trans hle2 (amK.new hm35)).trans hle3 (amK.new hm50)).trans hle4 (amK.new hm67)).trans hle5 (amK.new hm86)).trans hle6 (amK.new hm107)).trans hle7 (amK.new hm130)).trans hle8 (amK.new hm155)).trans hle9 (amK.new hm182)).trans hle10 (amK.new hm211)).trans hle11 (amK.new hm242)), rfl, hfr0⟩ (Nat.le_of_ble_eq_true rfl) (Nat.le_of_ble_eq_true rfl) dX5_init_130 hlocks)
