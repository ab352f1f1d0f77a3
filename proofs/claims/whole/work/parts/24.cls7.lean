/-! The two constructors. -/
def yRow0 (n : Nat → Nat) (S : ts_St) (i : Nat) : ts_St := up3 (up2 S 2 (n 2) (fun _ => -1)) 1 i 0 (n 2 : Int)
set_option maxHeartbeats 4000000 in
set_option maxRecDepth 100000 in
theorem c_X3_init (l : Launch) (D : va_G) (cA : Nat → ClassId) (n : Nat → Nat) (am : ts_Am) (S : ts_St) (sz : Nat) (i : Nat) (hi : i < n 1) (hn2 : n 2 ≤ 1000) : Met l yX3_init wsX3_init ({ frames := 1, cells := 1, slots := 4, locals := 24 } : Room) (va_Pc [.ref (am 1 i)] (zP TX D cA (n, am, S) sz)) (zQv TX D cA (n, am, S) sz (fun u => ∃ am', amK n am am' ∧ u = (upN n 2 (n 2 + 1), am', yRow0 n S i))) 1 4 (ts_A (n, am, S) sz) := by
  refine zM_of (by decide) rfl (Nat.le_of_ble_eq_true rfl) ?_
  intro p e s m below meth c hx hb hr hts hown hlocks hml hname hK hsz H locs hI ls hl
  subst hsz
  have hown : s.vm.findClass RX3 = some m.cls := hown
  have hl : lv_has ls 1 [(0, .ref (am 1 i))] := hl
  have f11 := hts (.fieldLink RX3 11 "DockyardSlots$LaneRow" "lanes" "[LDockyardSlots$Lane;") (by decide +kernel)
  have LX3 : ∀ w ∈ wsX30, w.before [.ref (am 1 i)].toArray s = true := fun w h => hts w (List.mem_cons_of_mem _ (List.mem_append_right _ h))
  refine lv_aload_n hx hb dX3_init_0 rfl (lv_at hl 0 rfl) ?_
  refine W.objInit hx hb hown (hts (.methodLink RX3 3 objectInit) (by decide +kernel)) (hts (.instanceMethod objectInit) (by decide +kernel)) (hts (.code objectInit ⟨#[0xb1]⟩ 1 none) (by decide +kernel)) rfl (by rw [hml]; exact hl.1) rfl dX3_init_1 (Nat.le_of_ble_eq_true rfl) (Nat.le_of_ble_eq_true rfl) ?_
  refine W.eq (g2 := F0 m 4 ls []) rfl ?_
  refine lv_aload_n hx hb dX3_init_4 rfl (lv_at hl 0 rfl) ?_
  refine z_iconst hx hb dX3_init_5 ?_
  refine znq (κ := 2) hx hb hown (hts _ (by decide +kernel)) hK hI rfl rfl (by decide) (Nat.le_of_ble_eq_true rfl) (Nat.le_of_ble_eq_true rfl) dX3_init_6 (fun am1 H hm2 hI => ?_)
  obtain ⟨j5, ej5⟩ : ∃ z, z = n 2 := ⟨_, rfl⟩
  obtain ⟨n3, en3⟩ : ∃ z, z = upN n 2 (n 2 + 1) := ⟨_, rfl⟩
  obtain ⟨S4, eS4⟩ : ∃ z, z = up2 S 2 (n 2) (fun _ => -1) := ⟨_, rfl⟩
  rw [← en3, ← eS4] at hI
  have v6 : i < n3 1 := by rw [en3, upN_r (by decide)]; exact hi
  have r7 : am1 1 i = am 1 i := hm2 _ _ (by have := hi; omega)
  have v8 : j5 < n3 2 := by rw [en3, upN_s]; omega
  replace hl : lv_has ls 1 [(0, .ref (am1 1 i))] := by simp only [r7]; exact hl
  refine W.eq (g2 := F0 m 9 ls [.ref (am1 2 j5), .ref (am1 1 i)]) (by simp only [ej5, r7]) ?_
  refine zpF_r (κ := 1) (i := i) (k := 0) (t := 2) (j := j5) hx hb LX3 tyX3 tyX3_ok nmX3 hown hK hI v6 rfl rfl (by decide) rfl f11 (fun _ h9 => h9) rfl hname rfl rfl rfl v8 (by constructor <;> omega) dX3_init_9 (fun H locs hI => ?_)
  obtain ⟨S9, eS9⟩ : ∃ z, z = up3 S4 1 i 0 (j5 : Int) := ⟨_, rfl⟩
  rw [← eS9] at hI
  exact (ze_v (u' := (n3, am1, S9)) hx hb hr hI ⟨am1, amK.new hm2, by rw [en3, eS9, eS4, ej5, yRow0]⟩ (Nat.le_of_ble_eq_true rfl) (Nat.le_of_ble_eq_true rfl) dX3_init_12 hlocks)
theorem amK.trans {n n' : Nat → Nat} {am am' am'' : ts_Am} (h : amK n am am') (hn : ∀ a, n a ≤ n' a) (h2 : amK n' am' am'') : amK n am am'' := fun a b q => (h2 a b (Nat.lt_of_lt_of_le q (hn a))).trans (h a b q)
theorem upN_le {n : Nat → Nat} {κ : Nat} : ∀ a, n a ≤ upN n κ (n κ + 1) a := by
  intro a
  by_cases h : a = κ
  · subst h
    rw [upN_s]
    omega
  · rw [upN_r h]
    exact Nat.le_refl _
/-- the yard when it is new -/
def yFresh (n' : Nat → Nat) (S' : ts_St) : Prop := cW n' S' ∧ (n' 5 = 0 ∧ n' 6 = 0 ∧ n' 7 = 0 ∧ n' 8 = 0) ∧ (S' 0 0 5 = 1 ∧ S' 0 0 6 = 2 ∧ S' 0 0 7 = 30 ∧ S' 0 0 8 = 4 ∧ S' 0 0 9 = 50) ∧ S' 0 0 10 = 0 ∧ S' 0 0 11 = 0 ∧ S' 0 0 12 = 0
set_option maxHeartbeats 4000000 in
set_option maxRecDepth 100000 in
theorem c_X4_init (l : Launch) (D : va_G) (cA : Nat → ClassId) (n : Nat → Nat) (am : ts_Am) (S : ts_St) (sz : Nat) (i : Nat) (hi0 : i = 0) (hn0 : n 0 = 1) (hn : ∀ κ, ¬ κ = 0 → n κ = 0) (hS : ∀ k, S 0 0 k = zf 0 k) : Met l yX4_init wsX4_init ({ frames := 2, cells := 4, slots := 50, locals := 44 } : Room) (va_Pc [.ref (am 0 i)] (zP TX D cA (n, am, S) sz)) (zQv TX D cA (n, am, S) sz (fun u => ∃ am' n' S', amK n am am' ∧ u = (n', am', S') ∧ yFresh n' S')) 4 50 (ts_A (n, am, S) sz) := by
  refine zM_of (by decide) rfl (Nat.le_of_ble_eq_true rfl) ?_
  intro p e s m below meth c hx hb hr hts hown hlocks hml hname hK hsz H locs hI ls hl
  subst hsz
  have hown : s.vm.findClass RX4 = some m.cls := hown
  have hl : lv_has ls 1 [(0, .ref (am 0 i))] := hl
  have f10 := hts (.fieldLink RX4 10 "DockyardSlots" "lanes" "LDockyardSlots$LaneRow;") (by decide +kernel)
  have f18 := hts (.fieldLink RX4 18 "DockyardSlots" "doors" "[LDockyardSlots$Door;") (by decide +kernel)
  have f24 := hts (.fieldLink RX4 24 "DockyardSlots" "appointments" "[LDockyardSlots$Appointment;") (by decide +kernel)
  have f28 := hts (.fieldLink RX4 28 "DockyardSlots" "tolerance" "I") (by decide +kernel)
  have f32 := hts (.fieldLink RX4 32 "DockyardSlots" "freeHours" "I") (by decide +kernel)
  have f35 := hts (.fieldLink RX4 35 "DockyardSlots" "firstRate" "I") (by decide +kernel)
  have f38 := hts (.fieldLink RX4 38 "DockyardSlots" "firstHours" "I") (by decide +kernel)
  have f41 := hts (.fieldLink RX4 41 "DockyardSlots" "secondRate" "I") (by decide +kernel)
  have LX3 : ∀ w ∈ wsX30, w.before [.ref (am 0 i)].toArray s = true := fun w h => hts w (List.mem_cons_of_mem _ (List.mem_append_left _ (List.mem_append_right _ h)))
  have LX4 : ∀ w ∈ wsX40, w.before [.ref (am 0 i)].toArray s = true := fun w h => hts w (List.mem_cons_of_mem _ (List.mem_append_right _ h))
  have hi : i < n 0 := by omega
  have hn1 := hn 1 (by decide)
  refine lv_aload_n hx hb dX4_init_0 rfl (lv_at hl 0 rfl) ?_
  refine W.objInit hx hb hown (hts (.methodLink RX4 1 objectInit) (by decide +kernel)) (hts (.instanceMethod objectInit) (by decide +kernel)) (hts (.code objectInit ⟨#[0xb1]⟩ 1 none) (by decide +kernel)) rfl (by rw [hml]; exact hl.1) rfl dX4_init_1 (Nat.le_of_ble_eq_true rfl) (Nat.le_of_ble_eq_true rfl) ?_
  refine W.eq (g2 := F0 m 4 ls []) rfl ?_
  refine lv_aload_n hx hb dX4_init_4 rfl (lv_at hl 0 rfl) ?_
  refine zn (κ := 1) (f0 := zf 1) hx hb LX3 tyX3 tyX3_ok hown (hts _ (by decide +kernel)) (hts _ (by decide +kernel)) (hts _ (by decide +kernel)) hK hI rfl rfl zf_1 (zf_bd 1) (zf_r1 _) (Nat.le_of_ble_eq_true rfl) (Nat.le_of_ble_eq_true rfl) dX4_init_5 (fun am1 H hm2 hI => ?_)
  obtain ⟨j5, ej5⟩ : ∃ z, z = n 1 := ⟨_, rfl⟩
  obtain ⟨n3, en3⟩ : ∃ z, z = upN n 1 (n 1 + 1) := ⟨_, rfl⟩
  obtain ⟨S4, eS4⟩ : ∃ z, z = up2 S 1 (n 1) (zf 1) := ⟨_, rfl⟩
  rw [← en3, ← eS4] at hI
  have v6 : i < n3 0 := by rw [en3, upN_r (by decide)]; exact hi
  have r7 : am1 0 i = am 0 i := hm2 _ _ (by have := hi; omega)
  have v8 : j5 < n3 1 := by rw [en3, upN_s]; omega
  replace hl : lv_has ls 1 [(0, .ref (am1 0 i))] := by simp only [r7]; exact hl
  refine W.eq (g2 := F0 m 8 ls [.ref (am1 1 j5), .ref (am1 0 i)]) (by simp only [ej5, r7]) ?_
  refine lv_dup hx hb dX4_init_8 rfl ?_
  have y2 : n3 2 = 0 := by rw [en3, upN_r (by decide)]; exact hn 2 (by decide)
  refine zc_v (zrI (As := []) (rest := [.ref (am1 1 j5), .ref (am1 0 i)]) ⟨hx, hb, hml, hown, hts⟩ (c_X3_init l D cA n3 am1 S4 H.size j5 v8 (by omega)) (cwI 0 hts gX4_init_X3_init rfl rfl rfl (hts _ (by decide +kernel)) (hts _ (by decide +kernel)) (hts _ (by decide +kernel)) rfl (by decide +kernel) ⟨Nat.le_of_ble_eq_true rfl, Nat.le_of_ble_eq_true rfl⟩) hK hI rfl hl.1 rfl (Nat.le_of_ble_eq_true rfl) dX4_init_9 ⟨Nat.le_of_ble_eq_true rfl, Nat.le_of_ble_eq_true rfl⟩) hI (fun u9 H locs hp9 hI hfr => ?_)
  clear hfr
  obtain ⟨am10, hm11, rfl⟩ := hp9
  obtain ⟨n12, en12⟩ : ∃ z, z = upN n3 2 (n3 2 + 1) := ⟨_, rfl⟩
  obtain ⟨S13, eS13⟩ : ∃ z, z = yRow0 n3 S4 j5 := ⟨_, rfl⟩
  rw [← en12, ← eS13] at hI
  have v14 : i < n12 0 := by rw [en12, upN_r (by decide)]; exact v6
  have r15 : am10 0 i = am1 0 i := hm11 _ _ v6
  have v16 : j5 < n12 1 := by rw [en12, upN_r (by decide)]; exact v8
  have r17 : am10 1 j5 = am1 1 j5 := hm11 _ _ v8
  replace hl : lv_has ls 1 [(0, .ref (am10 0 i))] := by simp only [r15, r17]; exact hl
  refine W.eq (g2 := F0 m 12 ls [.ref (am10 1 j5), .ref (am10 0 i)]) (by simp only [r15, r17]) ?_
  have z1 : j5 = 0 := ej5.trans (hn 1 (by decide))
  refine zpF_r (κ := 0) (i := i) (k := 0) (t := 1) (j := j5) hx hb LX4 tyX4 tyX4_ok nmX4 hown hK hI v14 rfl rfl (by decide) rfl f10 (fun _ h9 => h9) rfl hname rfl rfl rfl v16 (by constructor <;> omega) dX4_init_12 (fun H locs hI => ?_)
  obtain ⟨S18, eS18⟩ : ∃ z, z = up3 S13 0 i 0 (j5 : Int) := ⟨_, rfl⟩
  rw [← eS18] at hI
  refine lv_aload_n hx hb dX4_init_15 rfl (lv_at hl 0 rfl) ?_
  refine z_iconst hx hb dX4_init_16 ?_
  refine znq (κ := 3) hx hb hown (hts _ (by decide +kernel)) hK hI rfl rfl (by decide) (Nat.le_of_ble_eq_true rfl) (Nat.le_of_ble_eq_true rfl) dX4_init_17 (fun am19 H hm20 hI => ?_)
  obtain ⟨j23, ej23⟩ : ∃ z, z = n12 3 := ⟨_, rfl⟩
  obtain ⟨n21, en21⟩ : ∃ z, z = upN n12 3 (n12 3 + 1) := ⟨_, rfl⟩
  obtain ⟨S22, eS22⟩ : ∃ z, z = up2 S18 3 (n12 3) (fun _ => -1) := ⟨_, rfl⟩
  rw [← en21, ← eS22] at hI
  have v24 : i < n21 0 := by rw [en21, upN_r (by decide)]; exact v14
  have r25 : am19 0 i = am10 0 i := hm20 _ _ (by have := v14; omega)
  have v26 : j5 < n21 1 := by rw [en21, upN_r (by decide)]; exact v16
  have r27 : am19 1 j5 = am10 1 j5 := hm20 _ _ (by have := v16; omega)
  have v28 : j23 < n21 3 := by rw [en21, upN_s]; omega
  replace hl : lv_has ls 1 [(0, .ref (am19 0 i))] := by simp only [r25, r27]; exact hl
  refine W.eq (g2 := F0 m 20 ls [.ref (am19 3 j23), .ref (am19 0 i)]) (by simp only [ej23, r25, r27]) ?_
  have y3 : n12 3 = 0 := by rw [en12, upN_r (by decide), en3, upN_r (by decide)]; exact hn 3 (by decide)
  have z3 : j23 = 0 := ej23.trans y3
  refine zpF_r (κ := 0) (i := i) (k := 1) (t := 3) (j := j23) hx hb LX4 tyX4 tyX4_ok nmX4 hown hK hI v24 rfl rfl (by decide) rfl f18 (fun _ h9 => h9) rfl hname rfl rfl rfl v28 (by constructor <;> omega) dX4_init_20 (fun H locs hI => ?_)
  obtain ⟨S29, eS29⟩ : ∃ z, z = up3 S22 0 i 1 (j23 : Int) := ⟨_, rfl⟩
  rw [← eS29] at hI
  refine lv_aload_n hx hb dX4_init_23 rfl (lv_at hl 0 rfl) ?_
  refine z_bipush hx hb dX4_init_24 (by decide) ?_
  refine znq (κ := 4) hx hb hown (hts _ (by decide +kernel)) hK hI rfl rfl (by decide) (Nat.le_of_ble_eq_true rfl) (Nat.le_of_ble_eq_true rfl) dX4_init_26 (fun am30 H hm31 hI => ?_)
  obtain ⟨j34, ej34⟩ : ∃ z, z = n21 4 := ⟨_, rfl⟩
  obtain ⟨n32, en32⟩ : ∃ z, z = upN n21 4 (n21 4 + 1) := ⟨_, rfl⟩
  obtain ⟨S33, eS33⟩ : ∃ z, z = up2 S29 4 (n21 4) (fun _ => -1) := ⟨_, rfl⟩
  rw [← en32, ← eS33] at hI
  have v35 : i < n32 0 := by rw [en32, upN_r (by decide)]; exact v24
  have r36 : am30 0 i = am19 0 i := hm31 _ _ (by have := v24; omega)
  have v37 : j5 < n32 1 := by rw [en32, upN_r (by decide)]; exact v26
  have r38 : am30 1 j5 = am19 1 j5 := hm31 _ _ (by have := v26; omega)
  have v39 : j23 < n32 3 := by rw [en32, upN_r (by decide)]; exact v28
  have r40 : am30 3 j23 = am19 3 j23 := hm31 _ _ (by have := v28; omega)
  have v41 : j34 < n32 4 := by rw [en32, upN_s]; omega
  replace hl : lv_has ls 1 [(0, .ref (am30 0 i))] := by simp only [r36, r38, r40]; exact hl
  refine W.eq (g2 := F0 m 29 ls [.ref (am30 4 j34), .ref (am30 0 i)]) (by simp only [ej34, r36, r38, r40]) ?_
  have y4 : n21 4 = 0 := by rw [en21, upN_r (by decide), en12, upN_r (by decide), en3, upN_r (by decide)]; exact hn 4 (by decide)
  have z4 : j34 = 0 := ej34.trans y4
  refine zpF_r (κ := 0) (i := i) (k := 3) (t := 4) (j := j34) hx hb LX4 tyX4 tyX4_ok nmX4 hown hK hI v35 rfl rfl (by decide) rfl f24 (fun _ h9 => h9) rfl hname rfl rfl rfl v41 (by constructor <;> omega) dX4_init_29 (fun H locs hI => ?_)
  obtain ⟨S42, eS42⟩ : ∃ z, z = up3 S33 0 i 3 (j34 : Int) := ⟨_, rfl⟩
  rw [← eS42] at hI
  refine lv_aload_n hx hb dX4_init_32 rfl (lv_at hl 0 rfl) ?_
  refine z_iconst hx hb dX4_init_33 ?_
  refine zp_i (κ := 0) (i := i) (k := 5) hx hb LX4 tyX4 tyX4_ok nmX4 hown hK hI v35 rfl rfl (by decide) rfl f28 (fun _ h9 => h9) rfl rfl rfl (by omega) dX4_init_34 (fun H locs hI => ?_)
  obtain ⟨S43, eS43⟩ : ∃ z, z = up3 S42 0 i 5 1 := ⟨_, rfl⟩
  rw [← eS43] at hI
  refine lv_aload_n hx hb dX4_init_37 rfl (lv_at hl 0 rfl) ?_
  refine z_iconst hx hb dX4_init_38 ?_
  refine zp_i (κ := 0) (i := i) (k := 6) hx hb LX4 tyX4 tyX4_ok nmX4 hown hK hI v35 rfl rfl (by decide) rfl f32 (fun _ h9 => h9) rfl rfl rfl (by omega) dX4_init_39 (fun H locs hI => ?_)
  obtain ⟨S44, eS44⟩ : ∃ z, z = up3 S43 0 i 6 2 := ⟨_, rfl⟩
  rw [← eS44] at hI
  refine lv_aload_n hx hb dX4_init_42 rfl (lv_at hl 0 rfl) ?_
  refine z_bipush hx hb dX4_init_43 (by decide) ?_
  refine zp_i (κ := 0) (i := i) (k := 7) hx hb LX4 tyX4 tyX4_ok nmX4 hown hK hI v35 rfl rfl (by decide) rfl f35 (fun _ h9 => h9) rfl rfl rfl (by omega) dX4_init_45 (fun H locs hI => ?_)
  obtain ⟨S45, eS45⟩ : ∃ z, z = up3 S44 0 i 7 30 := ⟨_, rfl⟩
  rw [← eS45] at hI
  refine lv_aload_n hx hb dX4_init_48 rfl (lv_at hl 0 rfl) ?_
  refine z_iconst hx hb dX4_init_49 ?_
  refine zp_i (κ := 0) (i := i) (k := 8) hx hb LX4 tyX4 tyX4_ok nmX4 hown hK hI v35 rfl rfl (by decide) rfl f38 (fun _ h9 => h9) rfl rfl rfl (by omega) dX4_init_50 (fun H locs hI => ?_)
  obtain ⟨S46, eS46⟩ : ∃ z, z = up3 S45 0 i 8 4 := ⟨_, rfl⟩
  rw [← eS46] at hI
  refine lv_aload_n hx hb dX4_init_53 rfl (lv_at hl 0 rfl) ?_
  refine z_bipush hx hb dX4_init_54 (by decide) ?_
  refine zp_i (κ := 0) (i := i) (k := 9) hx hb LX4 tyX4 tyX4_ok nmX4 hown hK hI v35 rfl rfl (by decide) rfl f41 (fun _ h9 => h9) rfl rfl rfl (by omega) dX4_init_56 (fun H locs hI => ?_)
  obtain ⟨S47, eS47⟩ : ∃ z, z = up3 S46 0 i 9 50 := ⟨_, rfl⟩
  rw [← eS47] at hI
  have hle1 : ∀ a, n a ≤ n3 a := by rw [en3]; exact upN_le
  have hle2 : ∀ a, n a ≤ n12 a := fun a => Nat.le_trans (hle1 a) (by rw [en12]; exact upN_le a)
  have hle3 : ∀ a, n a ≤ n21 a := fun a => Nat.le_trans (hle2 a) (by rw [en21]; exact upN_le a)
  have N0 : ∀ κ, n32 κ = if κ = 0 ∨ κ = 1 ∨ κ = 2 ∨ κ = 3 ∨ κ = 4 then 1 else 0 := by
    intro κ
    rw [en32, y4, en21, y3, en12, y2, en3, hn1]
    unfold upN
    by_cases q4 : κ = 4
    · subst q4; rfl
    · by_cases q3 : κ = 3
      · subst q3; rfl
      · by_cases q2 : κ = 2
        · subst q2; rfl
        · by_cases q1 : κ = 1
          · subst q1; rfl
          · by_cases q0 : κ = 0
            · subst q0; exact hn0
            · rw [if_neg q4, if_neg q3, if_neg q2, if_neg q1, hn κ q0, if_neg (by omega)]
  have hSf : S47 = up3 (up3 (up3 (up3 (up3 (up3 (up2 (up3 (up2 (up3 (up3 (up2 (up2 S 1 0 (zf 1)) 2 0 (fun _ => -1)) 1 0 0 ((0 : Nat) : Int)) 0 0 0 ((0 : Nat) : Int)) 3 0 (fun _ => -1)) 0 0 1 ((0 : Nat) : Int)) 4 0 (fun _ => -1)) 0 0 3 ((0 : Nat) : Int)) 0 0 5 1) 0 0 6 2) 0 0 7 30) 0 0 8 4) 0 0 9 50 := by rw [eS47, eS46, eS45, eS44, eS43, eS42, eS33, eS29, eS22, eS18, eS13, eS4, z1, z3, z4, y4, y3, hn1, hi0]; unfold yRow0; rw [y2]
  have F0 : ∀ k, S47 0 0 k = if k = 9 then 50 else if k = 8 then 4 else if k = 7 then 30 else if k = 6 then 2 else if k = 5 then 1 else if k = 3 ∨ k = 1 ∨ k = 0 then 0 else zf 0 k := by
    intro k
    rw [hSf]
    unfold up3 up2
    simp only [hS]
    by_cases q9 : k = 9 <;> by_cases q8 : k = 8 <;> by_cases q7 : k = 7 <;> by_cases q6 : k = 6 <;> by_cases q5 : k = 5 <;> by_cases q3 : k = 3 <;> by_cases q1 : k = 1 <;> by_cases q0 : k = 0 <;> simp [q9, q8, q7, q6, q5, q3, q1, q0]
  have F1 : S47 1 0 0 = 0 ∧ S47 1 0 1 = 0 := by rw [hSf]; exact ⟨by simp [up3, up2], by simp [up3, up2, zf]⟩
  have hfr0 : yFresh n32 S47 := by
    have m5 := N0 5; have m6 := N0 6; have m7 := N0 7; have m8 := N0 8
    simp only [N0, F0, yFresh, cW, zf]
    refine ⟨⟨by simp, by simp [F1], fun i hi => by simp at hi, fun κ => by split <;> omega, by simp [F1], fun k hk => by simp at hk, fun k hk => by simp at hk, fun k hk => by simp at hk, by simp⟩, by simp, by simp, by simp⟩
  exact (ze_v (u' := (n32, am30, S47)) hx hb hr hI ⟨am30, n32, S47, (((amK.new hm2).trans hle1 hm11).trans hle2 (amK.new hm20)).trans hle3 (amK.new hm31), rfl, hfr0⟩ (Nat.le_of_ble_eq_true rfl) (Nat.le_of_ble_eq_true rfl) dX4_init_59 hlocks)
