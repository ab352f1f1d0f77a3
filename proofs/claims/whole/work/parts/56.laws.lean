/-! What holds at the law's entry. -/
set_option maxRecDepth 100000 in
theorem inJ0 : ∀ w ∈ wsJ00, w ∈ lw_tbl := fun w h => by
  have e : wsJ00 = ([369, 371] : List Nat).filterMap (fun i => lw_tbl[i]?) := by decide +kernel
  rw [e] at h
  obtain ⟨i, -, hi⟩ := List.mem_filterMap.mp h
  exact List.mem_of_getElem? hi
set_option maxRecDepth 100000 in
theorem inJx : ∀ w ∈ wsJx000600, w ∈ lw_tbl := fun w h => by
  have e : wsJx000600 = ([357, 358, 359, 360, 361, 362] : List Nat).filterMap (fun i => lw_tbl[i]?) := by decide +kernel
  rw [e] at h
  obtain ⟨i, -, hi⟩ := List.mem_filterMap.mp h
  exact List.mem_of_getElem? hi
set_option maxRecDepth 100000 in
theorem inStr : ∀ w ∈ gX_strs.map (fun q => Cond.stringRef RX4 q.1 q.2), w ∈ lw_tbl := fun w h => by
  have e : gX_strs.map (fun q => Cond.stringRef RX4 q.1 q.2) = ([184, 220, 262, 263, 284, 292, 300, 301, 391, 415, 419, 425, 439, 476, 484, 498, 503, 504, 524, 529, 541, 542, 579, 609, 627, 675, 684] : List Nat).filterMap (fun i => lw_tbl[i]?) := by decide +kernel
  rw [e] at h
  obtain ⟨i, -, hi⟩ := List.mem_filterMap.mp h
  exact List.mem_of_getElem? hi
set_option maxRecDepth 100000 in
theorem inCast : ∀ w ∈ gX_cls.map (fun X => Cond.castable X X), w ∈ lw_tbl := fun w h => by
  have e : gX_cls.map (fun X => Cond.castable X X) = ([141, 213, 432, 384, 408, 668] : List Nat).filterMap (fun i => lw_tbl[i]?) := by decide +kernel
  rw [e] at h
  obtain ⟨i, -, hi⟩ := List.mem_filterMap.mp h
  exact List.mem_of_getElem? hi
set_option maxRecDepth 100000 in
theorem inDec : ∀ w ∈ gX_dec.map (fun X => Cond.declares (Bundle.initS X)), w ∈ lw_tbl := fun w h => by
  have e : gX_dec.map (fun X => Cond.declares (Bundle.initS X)) = ([143, 145, 147] : List Nat).filterMap (fun i => lw_tbl[i]?) := by decide +kernel
  rw [e] at h
  obtain ⟨i, -, hi⟩ := List.mem_filterMap.mp h
  exact List.mem_of_getElem? hi
section LAWS
variable {s : State} {args : Array Value}
theorem ls_world (hts : ∀ w ∈ lw_tbl, w.before args s = true) : ∃ D : va_G, va_K D vwCl [] s := by
  obtain ⟨c0, i0, h0⟩ := u_known (C := RJ0) (T := TJ0) (N := 2) (n := 4) hts inJ0 (hts _ (List.mem_of_getElem? (i := 368) (by decide +kernel)))
  obtain ⟨c1, i1, h1⟩ := u_known (C := RJx00060) (T := TJx00060) (N := 6) (n := 6) hts inJx (hts _ (List.mem_of_getElem? (i := 350) (by decide +kernel)))
  obtain ⟨c2, i2, h2⟩ := u_known (C := RX0) (T := TX0) (N := 10) (n := 10) hts inX0 (hts _ (List.mem_of_getElem? (i := 302) (by decide +kernel)))
  obtain ⟨c3, i3, h3⟩ := u_known (C := RX1) (T := TX1) (N := 2) (n := 2) hts inX1 (hts _ (List.mem_of_getElem? (i := 264) (by decide +kernel)))
  obtain ⟨c4, i4, h4⟩ := u_known (C := RX2) (T := TX2) (N := 5) (n := 5) hts inX2 (hts _ (List.mem_of_getElem? (i := 231) (by decide +kernel)))
  obtain ⟨c5, i5, h5⟩ := u_known (C := RX3) (T := TX3) (N := 2) (n := 2) hts inX3 (hts _ (List.mem_of_getElem? (i := 56) (by decide +kernel)))
  obtain ⟨c6, i6, h6⟩ := u_known (C := RX4) (T := TX4) (N := 13) (n := 13) hts inX4 (hts _ (List.mem_of_getElem? (i := 48) (by decide +kernel)))
  obtain ⟨c7, i7, h7⟩ := u_known (C := RX5) (T := TX5) (N := 25) (n := 25) hts inX5 (hts _ (List.mem_of_getElem? (i := 686) (by decide +kernel)))
  refine ⟨(fun c => match c with | 0 => c0 | 1 => c1 | 2 => c2 | 3 => c3 | 4 => c4 | 5 => c5 | 6 => c6 | _ => c7, fun c => match c with | 0 => i0 | 1 => i1 | 2 => i2 | 3 => i3 | 4 => i4 | 5 => i5 | 6 => i6 | _ => i7), fun c q hq => ?_, fun k q hk => by cases hk⟩
  match c, hq with
  | 0, hq =>
    cases hq
    exact h0
  | 1, hq =>
    cases hq
    exact h1
  | 2, hq =>
    cases hq
    exact h2
  | 3, hq =>
    cases hq
    exact h3
  | 4, hq =>
    cases hq
    exact h4
  | 5, hq =>
    cases hq
    exact h5
  | 6, hq =>
    cases hq
    exact h6
  | 7, hq =>
    cases hq
    exact h7
  | c + 8, hq => exact absurd (List.getElem?_eq_some_iff.mp hq).1 (by show ¬ c + 8 < 8; omega)
theorem ls_int (h : (Cond.arrayClass .int).before args s = true) : ∃ cA : ClassId, ArrOfT s cA .int ∧ va_RA s cA .int := by
  obtain ⟨cA, kA, comp, h1, h2, h3⟩ := Cond.arrayClass_spec h
  exact ⟨cA, fun n z => ⟨fun k h => (by cases h), kA, h2, comp, h3⟩, h1⟩
theorem ls_boolean (h : (Cond.arrayClass .boolean).before args s = true) : ∃ cA : ClassId, ArrOfT s cA .boolean ∧ va_RA s cA .boolean := by
  obtain ⟨cA, kA, comp, h1, h2, h3⟩ := Cond.arrayClass_spec h
  exact ⟨cA, fun n z => ⟨fun k h => (by cases h), kA, h2, comp, h3⟩, h1⟩
theorem ls_char (h : (Cond.arrayClass .char).before args s = true) : ∃ cA : ClassId, ArrOfT s cA .char ∧ va_RA s cA .char := by
  obtain ⟨cA, kA, comp, h1, h2, h3⟩ := Cond.arrayClass_spec h
  exact ⟨cA, fun n z => ⟨fun k h => (by cases h), kA, h2, comp, h3⟩, h1⟩
theorem ls_long (h : (Cond.arrayClass .long).before args s = true) : ∃ cA : ClassId, ArrOfT s cA .long ∧ va_RA s cA .long := by
  obtain ⟨cA, kA, comp, h1, h2, h3⟩ := Cond.arrayClass_spec h
  exact ⟨cA, fun n z => ⟨fun k h => (by cases h), kA, h2, comp, h3⟩, h1⟩
theorem ls_double (h : (Cond.arrayClass .double).before args s = true) : ∃ cA : ClassId, ArrOfT s cA .double ∧ va_RA s cA .double := by
  obtain ⟨cA, kA, comp, h1, h2, h3⟩ := Cond.arrayClass_spec h
  exact ⟨cA, fun n z => ⟨fun k h => (by cases h), kA, h2, comp, h3⟩, h1⟩
theorem ls_obj {C : String} (h : (Cond.arrayOver (.object C)).before args s = true) : ∃ cA : ClassId, ArrOfT s cA (.object C) ∧ va_RA s cA (.object C) ∧ va_AO C s := by
  obtain ⟨comp, cA, kA, f1, f2, f3, f4, f5⟩ := Cond.arrayOver_spec h
  exact ⟨cA, fun n z => ⟨fun k h => (by cases h), kA, f3, comp, f4⟩, ⟨kA, comp, f3, f4, f1, f5⟩, va_AO.of h⟩
theorem ls_KX {D : va_G} (hts : ∀ w ∈ lw_tbl, w.before args s = true) (hK : va_K D vwCl [] s) : ∃ cX : Nat → ClassId, ts_K TX D cX s := by
  obtain ⟨a2, r2, o2, p2⟩ := ls_obj (C := RX2) (hts _ (List.mem_of_getElem? (i := 62) (by decide +kernel)))
  obtain ⟨a1, r1, o1, p1⟩ := ls_obj (C := RX1) (hts _ (List.mem_of_getElem? (i := 72) (by decide +kernel)))
  obtain ⟨a0, r0, o0, p0⟩ := ls_obj (C := RX0) (hts _ (List.mem_of_getElem? (i := 74) (by decide +kernel)))
  obtain ⟨al, rl, ol⟩ := ls_long (hts _ (List.mem_of_getElem? (i := 961) (by decide +kernel)))
  refine ⟨fun κ => match κ with | 2 => a2 | 3 => a1 | 9 => al | _ => a0, hK, fun κ q hq => ?_⟩
  match κ, hq with
  | 0, hq => cases hq
  | 1, hq => cases hq
  | 2, hq =>
    cases hq
    exact ⟨⟨r2, o2⟩, fun C hC => by cases hC; exact p2⟩
  | 3, hq =>
    cases hq
    exact ⟨⟨r1, o1⟩, fun C hC => by cases hC; exact p1⟩
  | 4, hq =>
    cases hq
    exact ⟨⟨r0, o0⟩, fun C hC => by cases hC; exact p0⟩
  | 5, hq => cases hq
  | 6, hq =>
    cases hq
    exact ⟨⟨r0, o0⟩, fun C hC => by cases hC; exact p0⟩
  | 7, hq => cases hq
  | 8, hq => cases hq
  | 9, hq =>
    cases hq
    exact ⟨⟨rl, ol⟩, fun C hC => by cases hC⟩
  | κ + 10, hq => cases hq
theorem ls_KM {D : va_G} (hts : ∀ w ∈ lw_tbl, w.before args s = true) (hK : va_K D vwCl [] s) : ∃ cM : Nat → ClassId, ts_K TM D cM s := by
  obtain ⟨ai, ri, oi⟩ := ls_int (hts _ (List.mem_of_getElem? (i := 767) (by decide +kernel)))
  obtain ⟨az, rz, oz⟩ := ls_boolean (hts _ (List.mem_of_getElem? (i := 768) (by decide +kernel)))
  obtain ⟨ac, rc, oc⟩ := ls_char (hts _ (List.mem_of_getElem? (i := 769) (by decide +kernel)))
  refine ⟨fun κ => match κ with | 2 => az | 6 => ac | 10 => ac | 12 => ac | _ => ai, hK, fun κ q hq => ?_⟩
  match κ, hq with
  | 0, hq => cases hq
  | 1, hq =>
    cases hq
    exact ⟨⟨ri, oi⟩, fun C hC => by cases hC⟩
  | 2, hq =>
    cases hq
    exact ⟨⟨rz, oz⟩, fun C hC => by cases hC⟩
  | 3, hq =>
    cases hq
    exact ⟨⟨ri, oi⟩, fun C hC => by cases hC⟩
  | 4, hq =>
    cases hq
    exact ⟨⟨ri, oi⟩, fun C hC => by cases hC⟩
  | 5, hq => cases hq
  | 6, hq =>
    cases hq
    exact ⟨⟨rc, oc⟩, fun C hC => by cases hC⟩
  | 7, hq =>
    cases hq
    exact ⟨⟨ri, oi⟩, fun C hC => by cases hC⟩
  | 8, hq => cases hq
  | 9, hq =>
    cases hq
    exact ⟨⟨ri, oi⟩, fun C hC => by cases hC⟩
  | 10, hq =>
    cases hq
    exact ⟨⟨rc, oc⟩, fun C hC => by cases hC⟩
  | 11, hq =>
    cases hq
    exact ⟨⟨ri, oi⟩, fun C hC => by cases hC⟩
  | 12, hq =>
    cases hq
    exact ⟨⟨rc, oc⟩, fun C hC => by cases hC⟩
  | 13, hq =>
    cases hq
    exact ⟨⟨ri, oi⟩, fun C hC => by cases hC⟩
  | 14, hq =>
    cases hq
    exact ⟨⟨ri, oi⟩, fun C hC => by cases hC⟩
  | 15, hq =>
    cases hq
    exact ⟨⟨ri, oi⟩, fun C hC => by cases hC⟩
  | κ + 16, hq => cases hq
set_option maxRecDepth 100000 in
theorem ls_G (hts : ∀ w ∈ lw_tbl, w.before args s = true) (hgv : (Jvm.Cond.and given_1 narrow_1).before args s = true) : gX (fun q => s.heap.size ≤ q) s s.heap := by
  have hs := flat_of_before _ hgv
  have hini : (Cond.initialized Bundle.tN).before args s = true := hts _ (List.mem_of_getElem? (i := 32) (by decide +kernel))
  refine ⟨vx_Zqof (hts _ (List.mem_of_getElem? (i := 166) (by decide +kernel))) hini (hs _ (by decide +kernel)) (fun a h => Nat.not_le.mpr h), vx_Zqof (hts _ (List.mem_of_getElem? (i := 168) (by decide +kernel))) hini (hs _ (by decide +kernel)) (fun a h => Nat.not_le.mpr h), fun q hq => ?_, fun X hX => va_Nw.of rfl (hts _ (inCast _ (List.mem_map.mpr ⟨X, hX, rfl⟩))), fun X hX => va_Nw.of rfl (hts _ (inDec _ (List.mem_map.mpr ⟨X, hX, rfl⟩)))⟩
  obtain ⟨cC, kC, hfc, -⟩ := Cond.instantiable_spec (hts (.instantiable RX4 13) (List.mem_of_getElem? (i := 48) (by decide +kernel)))
  have h := hts _ (inStr _ (List.mem_map.mpr ⟨q, hq, rfl⟩))
  obtain ⟨k, cf, i, a, hk, hcf, hcp, -, hr, hev⟩ := Cond.stringRef_spec hfc h
  exact ⟨a, vk_R.of h hev⟩
set_option maxRecDepth 100000 in
theorem ls_H (hgv : (Jvm.Cond.and given_1 narrow_1).before args s = true) : gH s := by
  have hs := flat_of_before _ hgv
  unfold gH gHx
  exact List.forall_mem_cons.mpr ⟨va_Nc.of (hs _ (by decide +kernel)), List.forall_mem_cons.mpr ⟨va_Nc.of (hs _ (by decide +kernel)), List.forall_mem_cons.mpr ⟨va_Nc.of (hs _ (by decide +kernel)), List.forall_mem_cons.mpr ⟨va_Nc.of (hs _ (by decide +kernel)), List.forall_mem_cons.mpr ⟨va_Nc.of (hs _ (by decide +kernel)), List.forall_mem_cons.mpr ⟨va_Nc.of (hs _ (by decide +kernel)), List.forall_mem_cons.mpr ⟨va_Nc.of (hs _ (by decide +kernel)), List.forall_mem_cons.mpr ⟨va_Nc.of (hs _ (by decide +kernel)), fun _ h => absurd h List.not_mem_nil⟩⟩⟩⟩⟩⟩⟩⟩
end LAWS
