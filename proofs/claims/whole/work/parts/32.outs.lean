/-! Arrays of longs in a typed store; calls whose throws are caught. -/
section ZOUT
variable {p : Program} {l : Launch} {e : Env} {R : Room} {s : State} {m : MethodId} {args : Array Value} {below : List Frame} {meth : Method} {c : Code} {H : Heap} {locs : List Loc} {cells slots mc ms : Nat} {Q : State → Prop} {cc : ByteArray} {pc : Nat} {ls : Array Slot} {rest st0 : List Value} {a : Array Value}
variable {tab : ts_Tab} {D : va_G} {cA : Nat → ClassId} {A : Nat → Prop} {H0 : Heap} {n : Nat → Nat} {am : ts_Am} {S : ts_St} {κ i len : Nat} {u : ts_W}
theorem za_l {j z : Int} (hexec : p.tables.exec = Jvm.exec) (hb : c.code = cc) (hK : ts_K tab D cA s) (hI : ts_I tab D cA A H0 (n, am, S) H locs) (hi : i < n κ) (htab : tab κ = .inr (len, 1, .long)) (h0 : 0 ≤ j) (hj : j < (len : Int)) (hR : iR j) (hdg : decode cc pc = .ok (.laload, 1)) (hz : S κ i j.toNat = z)
    (kk : W p l e R s m args below meth c H locs cells slots Q (F0 m (pc + 1) ls (.long (lZ z) :: rest))) : W p l e R s m args below meth c H locs cells slots Q (F0 m pc ls (.int (iZ j) :: .ref (am κ i) :: rest)) := by
  refine va_lald (f := fun j => lZ (S κ i j)) hexec hb (ts_K_arr hK htab) (ts_P_arr hI.1 hi htab) 0 0 rfl rfl (iZ_in h0 hj hR) hdg ?_
  rw [iZ_cl hR]
  subst hz
  exact kk
theorem zs_l {j z : Int} (hexec : p.tables.exec = Jvm.exec) (hb : c.code = cc) (hK : ts_K tab D cA s) (hI : ts_I tab D cA A H0 (n, am, S) H locs) (hi : i < n κ) (htab : tab κ = .inr (len, 1, .long)) (h0 : 0 ≤ j) (hj : j < (len : Int)) (hR : iR j) (hdg : decode cc pc = .ok (.lastore, 1))
    (kk : ∀ (H1 : Heap) (locs1 : List Loc), ts_I tab D cA A H0 (n, am, up3 S κ i j.toNat z) H1 locs1 → W p l e R s m args below meth c H1 locs1 cells slots Q (F0 m (pc + 1) ls rest)) : W p l e R s m args below meth c H locs cells slots Q (F0 m pc ls (.long (lZ z) :: .int (iZ j) :: .ref (am κ i) :: rest)) := by
  have hlt : j.toNat < len := by omega
  have hP := ts_P_arr hI.1 hi htab 0 _ rfl
  refine W.last hexec hb hP (((ts_K_arr hK htab).2 0 _ rfl).1 len (fun j => .long (lZ (S κ i j)))) (fun q => by cases q) (by show ¬ (iZ j < 0 ∨ (arrV _ _ _).slots.size ≤ _); rw [arrV_size]; exact iZ_in h0 hj hR) rfl rfl hdg fun H1 e z1 oq => ?_
  refine kk H1 _ (hI.put hi ?_ z1 oq (fun q => absurd (ts_ty_arr htab) q) (fun t' q => ?_))
  · show va_at D vwCl (am κ i, ts_E tab cA am (up3 S κ i j.toNat z) κ i) H1
    rw [ts_E_arr htab]
    show H1[am κ i]? = some (vp_cell (cA κ) (len, .inr (.inl (fun k => lZ (up3 S κ i j.toNat z κ i k)))))
    rw [e, vp_cell_l]
    show some ((vp_cell (cA κ) (len, .inr (.inl (fun k => lZ (S κ i k))))).setSlot _ _) = _
    rw [vp_cell_l, arrV_store, iZ_cl hR]
    congr 2
    funext q
    by_cases hq : q = j.toNat
    · subst hq
      simp only [updV, up3, and_self, if_true]
    · simp [updV, up3, hq]
  · rw [ts_ty_arr htab] at q
    cases q
/-- a call that may throw, in a method that may catch it -/
theorem zxh_i {post : Int → ts_W → Prop} {px : String → Prop} (hr : vx_Run p l e R s m args below meth c H locs cells slots mc ms (F0 m pc ls st0) rest (zQi tab D cA u H.size post a) (zXX tab D cA u H.size px) (ts_A u H.size)) (hI : ts_I tab D cA A H0 u H locs)
    (kx : ∀ (E : String) (ce : Cell) (q : Addr) (H1 : Heap) (locs1 : List Loc), px E → ts_I tab D cA A H0 u H1 locs1 → H1[q]? = some ce → ce.vm = .none → s.vm.findClass E = some ce.cls → vx_W p l e R s m args below meth c H1 locs1 (cells + mc) (slots + ms) Q (F0 m pc ls rest) q)
    (kk : ∀ (z : Int) (u' : ts_W) (H1 : Heap) (locs1 : List Loc), iR z → post z u' → ts_I tab D cA A H0 u' H1 locs1 → W p l e R s m args below meth c H1 locs1 (cells + mc) (slots + ms) Q (F0 m (pc + 3) ls (.int (iZ z) :: rest))) : W p l e R s m args below meth c H locs cells slots Q (F0 m pc ls st0) :=
  vx_calli hr hI.2.2 (fun q _ h => hI.2.1 q h) (fun q h => hI.2.1 q h) (fun q _ h => hI.2.1 q h) (fun E ce q9 u1 t H1 locs1 ht hvm _ hB hz hk hS hcell hv hcl => by
    subst ht
    exact kx E ce q9 _ locs1 hB.1 ⟨hB.2.1, fun q h => hI.2.1 q (hB.2.2 q h), hS⟩ hcell hv hcl) (fun r u1 t H1 locs1 ht hvm hp hB hz hk hS => by
    obtain ⟨z, rfl, hz2, hp⟩ := hp
    subst ht
    exact kk z u1 _ locs1 hz2 hp ⟨hB.1, fun q h => hI.2.1 q (hB.2 q h), hS⟩)
theorem zxhE_i {post : Int → ts_W → Prop} {px : String → ts_W → Prop} (hr : vx_Run p l e R s m args below meth c H locs cells slots mc ms (F0 m pc ls st0) rest (zQi tab D cA u H.size post a) (zXE tab D cA u H.size px) (ts_A u H.size)) (hI : ts_I tab D cA A H0 u H locs)
    (kx : ∀ (E : String) (ce : Cell) (q : Addr) (u' : ts_W) (H1 : Heap) (locs1 : List Loc), px E u' → ts_I tab D cA A H0 u' H1 locs1 → H1[q]? = some ce → ce.vm = .none → s.vm.findClass E = some ce.cls → vx_W p l e R s m args below meth c H1 locs1 (cells + mc) (slots + ms) Q (F0 m pc ls rest) q)
    (kk : ∀ (z : Int) (u' : ts_W) (H1 : Heap) (locs1 : List Loc), iR z → post z u' → ts_I tab D cA A H0 u' H1 locs1 → W p l e R s m args below meth c H1 locs1 (cells + mc) (slots + ms) Q (F0 m (pc + 3) ls (.int (iZ z) :: rest))) : W p l e R s m args below meth c H locs cells slots Q (F0 m pc ls st0) :=
  vx_calli hr hI.2.2 (fun q _ h => hI.2.1 q h) (fun q h => hI.2.1 q h) (fun q _ h => hI.2.1 q h) (fun E ce q9 u1 t H1 locs1 ht hvm _ hB hz hk hS hcell hv hcl => by
    subst ht
    exact kx E ce q9 u1 _ locs1 hB.1 ⟨hB.2.1, fun q h => hI.2.1 q (hB.2.2 q h), hS⟩ hcell hv hcl) (fun r u1 t H1 locs1 ht hvm hp hB hz hk hS => by
    obtain ⟨z, rfl, hz2, hp⟩ := hp
    subst ht
    exact kk z u1 _ locs1 hz2 hp ⟨hB.1, fun q h => hI.2.1 q (hB.2 q h), hS⟩)
end ZOUT
