/-! A typed store: a system of objects and arrays, kind by kind, index by index; its contents as whole numbers.
S κ i k: what stands at place k of the object (array) i of kind κ: an int or a long as its number, a reference as the index of its object in the kind that the place's type names, null as a number below 0. -/
abbrev ts_St : Type := Nat → Nat → Nat → Int
abbrev ts_Am : Type := Nat → Nat → Nat
abbrev ts_W : Type := (Nat → Nat) × ts_Am × ts_St
/-- a kind: an object (its class's place in the list of classes, its fields' types) or an array (length, its elements' type, its elements' type for the machine); types: 0 int, 1 long, k + 2 a reference to kind k -/
abbrev ts_Tab : Type := Nat → (Nat × List Nat) ⊕ (Nat × Nat × FieldType)
def ts_R (am : ts_Am) (k : Nat) (z : Int) : Option Nat := if z < 0 then none else some (am k z.toNat)
def ts_V (am : ts_Am) (t : Nat) (z : Int) : Value := match t with
  | 0 => .int (iZ z)
  | 1 => .long (lZ z)
  | k + 2 => va_rf (ts_R am k z)
def ts_L (am : ts_Am) (f : Nat → Int) : Nat → List Nat → List Value
  | _, [] => []
  | k, t :: ts => ts_V am t (f k) :: ts_L am f (k + 1) ts
def ts_F (am : ts_Am) (t : Nat) (f : Nat → Int) : (Nat → Int32) ⊕ (Nat → Int64) ⊕ (Nat → UInt32) ⊕ (Nat → UInt64) ⊕ (Nat → Option Nat) := match t with
  | 0 => .inl (fun j => iZ (f j))
  | 1 => .inr (.inl (fun j => lZ (f j)))
  | k + 2 => .inr (.inr (.inr (.inr (fun j => ts_R am k (f j)))))
def ts_E (tab : ts_Tab) (cA : Nat → ClassId) (am : ts_Am) (S : ts_St) (κ i : Nat) : va_E := match tab κ with
  | .inl q => .inr (q.1, ts_L am (S κ i) 0 q.2)
  | .inr q => .inl (cA κ, q.1, ts_F am q.2.1 (S κ i))
def ts_ty (tab : ts_Tab) (κ k : Nat) : Option Nat := match tab κ with
  | .inl q => q.2[k]?
  | .inr q => some q.2.1
abbrev ts_bd (z : Int) : Prop := -1000000000 ≤ z ∧ z ≤ 1000000000
/-- numbers within bounds; references point at objects that are there -/
def ts_ok (tab : ts_Tab) (n : Nat → Nat) (S : ts_St) : Prop := (∀ κ i k : Nat, ts_ty tab κ k ≠ some 1 → ts_bd (S κ i k)) ∧ ∀ κ i k t : Nat, i < n κ → ts_ty tab κ k = some (t + 2) → -1 ≤ S κ i k ∧ S κ i k < (n t : Int)
def ts_P (tab : ts_Tab) (D : va_G) (cA : Nat → ClassId) (u : ts_W) (H : Heap) : Prop :=
  (∀ κ i : Nat, i < u.1 κ → va_at D vwCl (u.2.1 κ i, ts_E tab cA u.2.1 u.2.2 κ i) H) ∧ (∀ κ i κ' i' : Nat, i < u.1 κ → i' < u.1 κ' → u.2.1 κ i = u.2.1 κ' i' → κ = κ' ∧ i = i') ∧ ts_ok tab u.1 u.2.2
def ts_K (tab : ts_Tab) (D : va_G) (cA : Nat → ClassId) (U : State) : Prop := va_K D vwCl [] U ∧ ∀ (κ : Nat) (q : Nat × Nat × FieldType), tab κ = .inr q → (ArrOfT U (cA κ) q.2.2 ∧ va_RA U (cA κ) q.2.2) ∧ ∀ C : String, q.2.2 = .object C → va_AO C U
/-- the cells of a store, and all that come behind -/
def ts_A (u : ts_W) (sz : Nat) : Nat → Prop := fun q => (∃ κ i : Nat, i < u.1 κ ∧ q = u.2.1 κ i) ∨ sz ≤ q
/-- the store inside a method's walk -/
def ts_I (tab : ts_Tab) (D : va_G) (cA : Nat → ClassId) (A : Nat → Prop) (H0 : Heap) (u : ts_W) (H : Heap) (locs : List Loc) : Prop := ts_P tab D cA u H ∧ (∀ q, ts_A u H.size q → A q) ∧ va_S A H0 H locs
def up3 (S : ts_St) (κ i k : Nat) (v : Int) : ts_St := fun a b c => if a = κ ∧ b = i ∧ c = k then v else S a b c
def up2 (S : ts_St) (κ i : Nat) (f : Nat → Int) : ts_St := fun a b c => if a = κ ∧ b = i then f c else S a b c
def upA (am : ts_Am) (κ i : Nat) (q : Nat) : ts_Am := fun a b => if a = κ ∧ b = i then q else am a b
def upN (n : Nat → Nat) (κ v : Nat) : Nat → Nat := fun a => if a = κ then v else n a
theorem up3_s (S : ts_St) (κ i k : Nat) (v : Int) : up3 S κ i k v κ i k = v := by simp [up3]
theorem up3_n {S : ts_St} {κ i k a b c : Nat} {v : Int} (h : ¬ (a = κ ∧ b = i ∧ c = k)) : up3 S κ i k v a b c = S a b c := by simp only [up3, if_neg h]
theorem up3_r {S : ts_St} {κ i k a b : Nat} {v : Int} (h : ¬ (a = κ ∧ b = i)) : up3 S κ i k v a b = S a b := by
  funext c
  exact up3_n (fun q => h ⟨q.1, q.2.1⟩)
theorem up2_s (S : ts_St) (κ i : Nat) (f : Nat → Int) : up2 S κ i f κ i = f := by
  funext c
  simp [up2]
theorem up2_r {S : ts_St} {κ i a b : Nat} {f : Nat → Int} (h : ¬ (a = κ ∧ b = i)) : up2 S κ i f a b = S a b := by
  funext c
  simp only [up2, if_neg h]
theorem upA_s (am : ts_Am) (κ i q : Nat) : upA am κ i q κ i = q := by simp [upA]
theorem upA_r {am : ts_Am} {κ i q a b : Nat} (h : ¬ (a = κ ∧ b = i)) : upA am κ i q a b = am a b := by simp only [upA, if_neg h]
theorem upN_s (n : Nat → Nat) (κ v : Nat) : upN n κ v κ = v := by simp [upN]
theorem upN_r {n : Nat → Nat} {κ v a : Nat} (h : a ≠ κ) : upN n κ v a = n a := by simp only [upN, if_neg h]
theorem ts_L_get (am : ts_Am) (f : Nat → Int) : ∀ (ts : List Nat) (k0 k : Nat), (ts_L am f k0 ts)[k]? = (ts[k]?).map (fun t => ts_V am t (f (k0 + k)))
  | [], k0, k => by simp [ts_L]
  | t :: ts, k0, 0 => by simp [ts_L]
  | t :: ts, k0, k + 1 => by
    rw [ts_L, List.getElem?_cons_succ, List.getElem?_cons_succ, ts_L_get am f ts (k0 + 1) k]
    rw [show k0 + 1 + k = k0 + (k + 1) by omega]
theorem ts_L_len (am : ts_Am) (f : Nat → Int) : ∀ (ts : List Nat) (k0 : Nat), (ts_L am f k0 ts).length = ts.length
  | [], k0 => rfl
  | t :: ts, k0 => by simp [ts_L, ts_L_len am f ts (k0 + 1)]
theorem ts_L_congr {am am' : ts_Am} {f f' : Nat → Int} {ts : List Nat} (h : ∀ k t : Nat, ts[k]? = some t → ts_V am t (f k) = ts_V am' t (f' k)) : ts_L am f 0 ts = ts_L am' f' 0 ts := by
  apply List.ext_getElem?
  intro k
  rw [ts_L_get, ts_L_get]
  cases hk : ts[k]? with
  | none => rfl
  | some t =>
    simp only [Option.map_some, Nat.zero_add]
    rw [h k t hk]
theorem ts_L_set {am : ts_Am} {f : Nat → Int} {ts : List Nat} {k t : Nat} (ht : ts[k]? = some t) (v : Int) : (ts_L am f 0 ts).set k (ts_V am t v) = ts_L am (fun j => if j = k then v else f j) 0 ts := by
  have hl : k < (ts_L am f 0 ts).length := by
    rw [ts_L_len]
    exact (List.getElem?_eq_some_iff.mp ht).1
  apply List.ext_getElem?
  intro j
  by_cases hj : j = k
  · subst hj
    rw [List.getElem?_set_self hl, ts_L_get, ht]
    simp
  · rw [List.getElem?_set_ne (Ne.symm hj), ts_L_get, ts_L_get]
    simp [hj]
theorem ts_E_obj {tab : ts_Tab} {cA : Nat → ClassId} {am : ts_Am} {S : ts_St} {κ i ci : Nat} {ts : List Nat} (h : tab κ = .inl (ci, ts)) : ts_E tab cA am S κ i = .inr (ci, ts_L am (S κ i) 0 ts) := by simp only [ts_E, h]
theorem ts_E_arr {tab : ts_Tab} {cA : Nat → ClassId} {am : ts_Am} {S : ts_St} {κ i len t : Nat} {ty : FieldType} (h : tab κ = .inr (len, t, ty)) : ts_E tab cA am S κ i = .inl (cA κ, len, ts_F am t (S κ i)) := by simp only [ts_E, h]
theorem ts_E_row {tab : ts_Tab} {cA : Nat → ClassId} {am : ts_Am} {S S' : ts_St} {κ i : Nat} (h : S' κ i = S κ i) : ts_E tab cA am S' κ i = ts_E tab cA am S κ i := by simp only [ts_E, h]
theorem ts_bd_0 : ts_bd 0 := by constructor <;> decide
theorem ts_ok.put {tab : ts_Tab} {n : Nat → Nat} {S : ts_St} {κ i k : Nat} {v : Int} (h : ts_ok tab n S) (hv : ts_ty tab κ k ≠ some 1 → ts_bd v) (hr : ∀ t, ts_ty tab κ k = some (t + 2) → -1 ≤ v ∧ v < (n t : Int)) : ts_ok tab n (up3 S κ i k v) := by
  refine ⟨fun a b c hne => ?_, fun a b c t hb ht => ?_⟩
  · unfold up3
    split
    · rename_i q
      obtain ⟨rfl, rfl, rfl⟩ := q
      exact hv hne
    · exact h.1 a b c hne
  · unfold up3
    split
    · rename_i q
      obtain ⟨rfl, rfl, rfl⟩ := q
      exact hr t ht
    · exact h.2 a b c t hb ht
theorem ts_P.put {tab : ts_Tab} {D : va_G} {cA : Nat → ClassId} {n : Nat → Nat} {am : ts_Am} {S : ts_St} {H H1 : Heap} {κ i k : Nat} {v : Int} (h : ts_P tab D cA (n, am, S) H) (hi : i < n κ) (he : va_at D vwCl (am κ i, ts_E tab cA am (up3 S κ i k v) κ i) H1) (oq : ∀ q : Nat, q ≠ am κ i → H1[q]? = H[q]?) (hv : ts_ty tab κ k ≠ some 1 → ts_bd v) (hr : ∀ t, ts_ty tab κ k = some (t + 2) → -1 ≤ v ∧ v < (n t : Int)) : ts_P tab D cA (n, am, up3 S κ i k v) H1 := by
  refine ⟨fun a b hb => ?_, h.2.1, h.2.2.put hv hr⟩
  by_cases q : a = κ ∧ b = i
  · obtain ⟨rfl, rfl⟩ := q
    exact he
  · show va_at D vwCl (am a b, ts_E tab cA am (up3 S κ i k v) a b) H1
    rw [ts_E_row (up3_r q)]
    exact (h.1 a b hb).kept (oq _ (fun z => q (h.2.1 a b κ i hb hi z)))
theorem ts_P.lt {tab : ts_Tab} {D : va_G} {cA : Nat → ClassId} {n : Nat → Nat} {am : ts_Am} {S : ts_St} {H : Heap} (h : ts_P tab D cA (n, am, S) H) {κ i : Nat} (hi : i < n κ) : am κ i < H.size := (h.1 κ i hi).lt
theorem ts_I.put {tab : ts_Tab} {D : va_G} {cA : Nat → ClassId} {A : Nat → Prop} {H0 : Heap} {n : Nat → Nat} {am : ts_Am} {S : ts_St} {H H1 : Heap} {locs : List Loc} {κ i k w : Nat} {v : Int} (h : ts_I tab D cA A H0 (n, am, S) H locs) (hi : i < n κ) (he : va_at D vwCl (am κ i, ts_E tab cA am (up3 S κ i k v) κ i) H1) (z : H1.size = H.size) (oq : ∀ q : Nat, q ≠ am κ i → H1[q]? = H[q]?) (hv : ts_ty tab κ k ≠ some 1 → ts_bd v) (hr : ∀ t, ts_ty tab κ k = some (t + 2) → -1 ≤ v ∧ v < (n t : Int)) : ts_I tab D cA A H0 (n, am, up3 S κ i k v) H1 (locs ++ [⟨am κ i, w⟩]) := by
  refine ⟨h.1.put hi he oq hv hr, ?_, h.2.2.put z oq (h.2.1 _ (Or.inl ⟨κ, i, hi, rfl⟩))⟩
  rw [z]
  exact h.2.1
theorem ts_rf_lt {tab : ts_Tab} {n : Nat → Nat} {S : ts_St} (h : ts_ok tab n S) {κ i k t : Nat} (hi : i < n κ) (ht : ts_ty tab κ k = some (t + 2)) : S κ i k < (n t : Int) := (h.2 κ i k t hi ht).2
theorem ts_rf_ge {tab : ts_Tab} {n : Nat → Nat} {S : ts_St} (h : ts_ok tab n S) {κ i k t : Nat} (hi : i < n κ) (ht : ts_ty tab κ k = some (t + 2)) : -1 ≤ S κ i k := (h.2 κ i k t hi ht).1
theorem ts_V_ref (am : ts_Am) (k j : Nat) : ts_V am (k + 2) (j : Int) = .ref (am k j) := by
  show va_rf (ts_R am k (j : Int)) = _
  unfold ts_R
  rw [if_neg (by omega)]
  rfl
theorem ts_V_null (am : ts_Am) (k : Nat) {z : Int} (h : z < 0) : ts_V am (k + 2) z = .null := by
  show va_rf (ts_R am k z) = _
  unfold ts_R
  rw [if_pos h]
  rfl
theorem ts_ty_obj {tab : ts_Tab} {κ ci k : Nat} {ts : List Nat} (h : tab κ = .inl (ci, ts)) : ts_ty tab κ k = ts[k]? := by simp only [ts_ty, h]
theorem ts_ty_arr {tab : ts_Tab} {κ len t k : Nat} {ty : FieldType} (h : tab κ = .inr (len, t, ty)) : ts_ty tab κ k = some t := by simp only [ts_ty, h]
section TSR
variable {p : Program} {l : Launch} {e : Env} {R : Room} {s : State} {m : MethodId} {args : Array Value} {below : List Frame} {meth : Method} {c : Code} {H : Heap} {locs : List Loc} {cells slots : Nat} {Q : State → Prop} {cc : ByteArray} {pc : Nat} {ls : Array Slot} {rest : List Value}
variable {tab : ts_Tab} {D : va_G} {cA : Nat → ClassId} {A : Nat → Prop} {H0 : Heap} {n : Nat → Nat} {am : ts_Am} {S : ts_St} {κ i k : Nat}
theorem zg (hexec : p.tables.exec = Jvm.exec) (hb : c.code = cc) {own ref C : String} {T : u_T} {N ci index t : Nat} {ts : List Nat} (hL : ∀ w ∈ u_ws C T N, w.before args s = true) (hown : s.vm.findClass own = some m.cls) (hK : ts_K tab D cA s) (hI : ts_I tab D cA A H0 (n, am, S) H locs) (hi : i < n κ) (htab : tab κ = .inl (ci, ts)) (hc : vwCl[ci]? = some (C, T, N)) (hk : k < N) (ht : ts[k]? = some t) (hlink : (Cond.fieldLink own index ref (T k).2.1 (T k).2.2.1).before args s = true) (hsame : ∀ x, s.fieldFound? (T k).1 (T k).2.1 (T k).2.2.1 = some x → s.fieldFound? ref (T k).2.1 (T k).2.2.1 = some x) (hdg : decode cc pc = .ok (.getfield index, 3))
    (kk : W p l e R s m args below meth c H locs cells slots Q (F0 m (pc + 3) ls (ts_V am t (S κ i k) :: rest))) : W p l e R s m args below meth c H locs cells slots Q (F0 m pc ls (.ref (am κ i) :: rest)) := by
  have h1 := hI.1.1 κ i hi
  dsimp only at h1
  rw [ts_E_obj htab] at h1
  have hP : va_P D vwCl [(am κ i, .inr (ci, ts_L am (S κ i) 0 ts))] H := fun j q hj => by
    have hz : j < 1 := (List.getElem?_eq_some_iff.mp hj).1
    rw [show j = 0 by omega] at hj
    cases hj
    exact h1
  refine va_get (D := D) hexec hb (Ts := u_ws C T N) hL (fun _ h => h) hown hK.1 hP 0 rfl hc k hk hlink hsame (v := ts_V am t (S κ i k)) ?_ hdg kk
  rw [ts_L_get, ht]
  simp
theorem zg_i (hexec : p.tables.exec = Jvm.exec) (hb : c.code = cc) {own ref C : String} {T : u_T} {N ci index : Nat} {ts : List Nat} {z : Int} (hL : ∀ w ∈ u_ws C T N, w.before args s = true) (hown : s.vm.findClass own = some m.cls) (hK : ts_K tab D cA s) (hI : ts_I tab D cA A H0 (n, am, S) H locs) (hi : i < n κ) (htab : tab κ = .inl (ci, ts)) (hc : vwCl[ci]? = some (C, T, N)) (hk : k < N) (ht : ts[k]? = some 0) (hlink : (Cond.fieldLink own index ref (T k).2.1 (T k).2.2.1).before args s = true) (hsame : ∀ x, s.fieldFound? (T k).1 (T k).2.1 (T k).2.2.1 = some x → s.fieldFound? ref (T k).2.1 (T k).2.2.1 = some x) (hdg : decode cc pc = .ok (.getfield index, 3)) (hz : S κ i k = z)
    (kk : ts_bd z → W p l e R s m args below meth c H locs cells slots Q (F0 m (pc + 3) ls (.int (iZ z) :: rest))) : W p l e R s m args below meth c H locs cells slots Q (F0 m pc ls (.ref (am κ i) :: rest)) := by
  subst hz
  exact zg hexec hb hL hown hK hI hi htab hc hk ht hlink hsame hdg (kk (hI.1.2.2.1 κ i k (by rw [ts_ty_obj htab, ht]; decide)))
theorem zg_l (hexec : p.tables.exec = Jvm.exec) (hb : c.code = cc) {own ref C : String} {T : u_T} {N ci index : Nat} {ts : List Nat} {z : Int} (hL : ∀ w ∈ u_ws C T N, w.before args s = true) (hown : s.vm.findClass own = some m.cls) (hK : ts_K tab D cA s) (hI : ts_I tab D cA A H0 (n, am, S) H locs) (hi : i < n κ) (htab : tab κ = .inl (ci, ts)) (hc : vwCl[ci]? = some (C, T, N)) (hk : k < N) (ht : ts[k]? = some 1) (hlink : (Cond.fieldLink own index ref (T k).2.1 (T k).2.2.1).before args s = true) (hsame : ∀ x, s.fieldFound? (T k).1 (T k).2.1 (T k).2.2.1 = some x → s.fieldFound? ref (T k).2.1 (T k).2.2.1 = some x) (hdg : decode cc pc = .ok (.getfield index, 3)) (hz : S κ i k = z)
    (kk : W p l e R s m args below meth c H locs cells slots Q (F0 m (pc + 3) ls (.long (lZ z) :: rest))) : W p l e R s m args below meth c H locs cells slots Q (F0 m pc ls (.ref (am κ i) :: rest)) := by
  subst hz
  exact zg hexec hb hL hown hK hI hi htab hc hk ht hlink hsame hdg kk
/-- a reference that is known -/
theorem zg_r (hexec : p.tables.exec = Jvm.exec) (hb : c.code = cc) {own ref C : String} {T : u_T} {N ci index t j : Nat} {ts : List Nat} (hL : ∀ w ∈ u_ws C T N, w.before args s = true) (hown : s.vm.findClass own = some m.cls) (hK : ts_K tab D cA s) (hI : ts_I tab D cA A H0 (n, am, S) H locs) (hi : i < n κ) (htab : tab κ = .inl (ci, ts)) (hc : vwCl[ci]? = some (C, T, N)) (hk : k < N) (ht : ts[k]? = some (t + 2)) (hlink : (Cond.fieldLink own index ref (T k).2.1 (T k).2.2.1).before args s = true) (hsame : ∀ x, s.fieldFound? (T k).1 (T k).2.1 (T k).2.2.1 = some x → s.fieldFound? ref (T k).2.1 (T k).2.2.1 = some x) (hdg : decode cc pc = .ok (.getfield index, 3)) (hz : S κ i k = (j : Int))
    (kk : j < n t → W p l e R s m args below meth c H locs cells slots Q (F0 m (pc + 3) ls (.ref (am t j) :: rest))) : W p l e R s m args below meth c H locs cells slots Q (F0 m pc ls (.ref (am κ i) :: rest)) := by
  refine zg hexec hb hL hown hK hI hi htab hc hk ht hlink hsame hdg ?_
  rw [hz, ts_V_ref]
  have h2 := ts_rf_lt hI.1.2.2 hi ((ts_ty_obj htab).trans ht)
  exact kk (by dsimp only at h2; rw [hz] at h2; omega)
/-- a reference that is null or not -/
theorem zg_q (hexec : p.tables.exec = Jvm.exec) (hb : c.code = cc) {own ref C : String} {T : u_T} {N ci index t : Nat} {ts : List Nat} (hL : ∀ w ∈ u_ws C T N, w.before args s = true) (hown : s.vm.findClass own = some m.cls) (hK : ts_K tab D cA s) (hI : ts_I tab D cA A H0 (n, am, S) H locs) (hi : i < n κ) (htab : tab κ = .inl (ci, ts)) (hc : vwCl[ci]? = some (C, T, N)) (hk : k < N) (ht : ts[k]? = some (t + 2)) (hlink : (Cond.fieldLink own index ref (T k).2.1 (T k).2.2.1).before args s = true) (hsame : ∀ x, s.fieldFound? (T k).1 (T k).2.1 (T k).2.2.1 = some x → s.fieldFound? ref (T k).2.1 (T k).2.2.1 = some x) (hdg : decode cc pc = .ok (.getfield index, 3))
    (kn : S κ i k = -1 → W p l e R s m args below meth c H locs cells slots Q (F0 m (pc + 3) ls (.null :: rest))) (kk : ∀ j : Nat, S κ i k = (j : Int) → j < n t → W p l e R s m args below meth c H locs cells slots Q (F0 m (pc + 3) ls (.ref (am t j) :: rest))) : W p l e R s m args below meth c H locs cells slots Q (F0 m pc ls (.ref (am κ i) :: rest)) := by
  by_cases h : S κ i k < 0
  · refine zg hexec hb hL hown hK hI hi htab hc hk ht hlink hsame hdg ?_
    rw [ts_V_null am t h]
    have h2 := ts_rf_ge hI.1.2.2 hi ((ts_ty_obj htab).trans ht)
    dsimp only at h2
    exact kn (by omega)
  · obtain ⟨j, hj⟩ := Int.eq_ofNat_of_zero_le (Int.not_lt.mp h)
    exact zg_r hexec hb hL hown hK hI hi htab hc hk ht hlink hsame hdg hj (kk j hj)
theorem zp (hexec : p.tables.exec = Jvm.exec) (hb : c.code = cc) {own ref C : String} {T : u_T} {N ci index t : Nat} {ts : List Nat} (hL : ∀ w ∈ u_ws C T N, w.before args s = true) (ty0 : Nat → FieldType) (hty : ∀ k, k < N → parseFieldDescriptor (T k).2.2.1 = some (ty0 k)) (hnm : ∀ a, a < N → ∀ b, b < N → a ≠ b → (T a).2.1 ≠ (T b).2.1) (hown : s.vm.findClass own = some m.cls) (hK : ts_K tab D cA s) (hI : ts_I tab D cA A H0 (n, am, S) H locs) (hi : i < n κ) (htab : tab κ = .inl (ci, ts)) (hc : vwCl[ci]? = some (C, T, N)) (hk : k < N) (ht : ts[k]? = some t) (hlink : (Cond.fieldLink own index ref (T k).2.1 (T k).2.2.1).before args s = true) (hsame : ∀ x, s.fieldFound? (T k).1 (T k).2.1 (T k).2.2.1 = some x → s.fieldFound? ref (T k).2.1 (T k).2.2.1 = some x) (hfin : (T k).2.2.2 = false) {z : Int} (hn : narrow (ty0 k) (ts_V am t z) = ts_V am t z) (hfit : fits (ty0 k) (ts_V am t z) = true) (hz : t ≠ 1 → ts_bd z) (hr : ∀ t', t = t' + 2 → -1 ≤ z ∧ z < (n t' : Int)) (hdg : decode cc pc = .ok (.putfield index, 3))
    (kk : ∀ (H1 : Heap) (locs1 : List Loc), ts_I tab D cA A H0 (n, am, up3 S κ i k z) H1 locs1 → W p l e R s m args below meth c H1 locs1 cells slots Q (F0 m (pc + 3) ls rest)) : W p l e R s m args below meth c H locs cells slots Q (F0 m pc ls (ts_V am t z :: .ref (am κ i) :: rest)) := by
  have hap := va_apart (own := own) hL (fun _ h => h) ty0 hty hnm hK.1 hc
  have h1 := hI.1.1 κ i hi
  dsimp only at h1
  rw [ts_E_obj htab] at h1
  obtain ⟨r, h1, cell, q1, q2, q3, q4⟩ := h1
  have hr0 : r = (C, T, N) := Option.some.inj (h1.symm.trans hc)
  subst hr0
  obtain ⟨hS, hfc, kC, hkC, hkind⟩ := hK.1.1 ci _ hc
  obtain ⟨cf, kf, fi, f, hfi, hsl⟩ := hS k hk
  have hlay := hL _ (u_in_lay hk)
  unfold u_lay at hlay
  rw [if_neg (by rw [hfin]; decide)] at hlay
  have hst := (u_facts hfc hkC (u_lays hL (fun _ h => h) hk) hfi).1
  have h6 := u_store hfc hkC hkind hlay hfi (hty k hk) hn hfit
  refine W.putK hexec hb (f := f) ⟨hown, hlink, ⟨_, _, _, hsame _ hfi⟩, hst⟩ (by rw [q2]; exact h6) q1 q3 (by rw [hsl]; exact k2_hasslot (q4 k hk)) rfl rfl hdg fun H' e1 e2 e3 => ?_
  rw [hsl] at e1 ⊢
  refine kk H' _ (hI.put hi ?_ e2 e3 (fun q => hz (fun z1 => q (by rw [ts_ty_obj htab, ht, z1]))) (fun t' q => hr t' ?_))
  · show va_at D vwCl (am κ i, ts_E tab cA am (up3 S κ i k z) κ i) H'
    rw [ts_E_obj htab]
    refine ⟨_, hc, t_OB.to (V := updV (vp_V (ts_L am (S κ i) 0 ts)) k (ts_V am t z)) ⟨_, e1, q2, q3, t_set q4 hap hk _⟩ (fun j _ => ?_)⟩
    have hl : k < (ts_L am (S κ i) 0 ts).length := by
      rw [ts_L_len]
      exact (List.getElem?_eq_some_iff.mp ht).1
    rw [vp_updV_set hl, ts_L_set ht]
    congr 2
    funext b
    simp [up3]
  · rw [ts_ty_obj htab, ht] at q
    exact Option.some.inj q
theorem zpF (hexec : p.tables.exec = Jvm.exec) (hb : c.code = cc) {own ref C : String} {T : u_T} {N ci index t : Nat} {ts : List Nat} (hL : ∀ w ∈ u_ws C T N, w.before args s = true) (ty0 : Nat → FieldType) (hty : ∀ k, k < N → parseFieldDescriptor (T k).2.2.1 = some (ty0 k)) (hnm : ∀ a, a < N → ∀ b, b < N → a ≠ b → (T a).2.1 ≠ (T b).2.1) (hown : s.vm.findClass own = some m.cls) (hK : ts_K tab D cA s) (hI : ts_I tab D cA A H0 (n, am, S) H locs) (hi : i < n κ) (htab : tab κ = .inl (ci, ts)) (hc : vwCl[ci]? = some (C, T, N)) (hk : k < N) (ht : ts[k]? = some t) (hlink : (Cond.fieldLink own index ref (T k).2.1 (T k).2.2.1).before args s = true) (hsame : ∀ x, s.fieldFound? (T k).1 (T k).2.1 (T k).2.2.1 = some x → s.fieldFound? ref (T k).2.1 (T k).2.2.1 = some x) (hfin : (T k).2.2.2 = true) (hin2 : meth.name = "<init>") (hdecl : (T k).1 = own) {z : Int} (hn : narrow (ty0 k) (ts_V am t z) = ts_V am t z) (hfit : fits (ty0 k) (ts_V am t z) = true) (hz : t ≠ 1 → ts_bd z) (hr : ∀ t', t = t' + 2 → -1 ≤ z ∧ z < (n t' : Int)) (hdg : decode cc pc = .ok (.putfield index, 3))
    (kk : ∀ (H1 : Heap) (locs1 : List Loc), ts_I tab D cA A H0 (n, am, up3 S κ i k z) H1 locs1 → W p l e R s m args below meth c H1 locs1 cells slots Q (F0 m (pc + 3) ls rest)) : W p l e R s m args below meth c H locs cells slots Q (F0 m pc ls (ts_V am t z :: .ref (am κ i) :: rest)) := by
  have hap := va_apart (own := own) hL (fun _ h => h) ty0 hty hnm hK.1 hc
  have h1 := hI.1.1 κ i hi
  dsimp only at h1
  rw [ts_E_obj htab] at h1
  obtain ⟨r, h1, cell, q1, q2, q3, q4⟩ := h1
  have hr0 : r = (C, T, N) := Option.some.inj (h1.symm.trans hc)
  subst hr0
  obtain ⟨hS, hfc, kC, hkC, hkind⟩ := hK.1.1 ci _ hc
  obtain ⟨cf, kf, fi, f, hfi, hsl⟩ := hS k hk
  have hlay := hL _ (u_in_lay hk)
  unfold u_lay at hlay
  rw [if_pos hfin] at hlay
  have hst := (u_facts hfc hkC (u_lays hL (fun _ h => h) hk) hfi).1
  have hcf : m.cls = cf := by
    obtain ⟨_, _, c', _, _, _, -, -, hf', -, -, -, hown2, -⟩ := Cond.laysFinal_spec hlay
    have e1 : c' = cf := by have := hfi.symm.trans hf'; simp at this; exact this.1.symm
    rw [hdecl] at hown2
    rw [← e1]; exact Option.some.inj (hown.symm.trans hown2)
  have h6 := u_fits hfc hkC hkind (Or.inr hlay) hfi (hty k hk) hn hfit
  refine W.putFinK hexec hb hown hlink (hsame _ hfi) hst hcf hin2 (by rw [q2]; exact h6) q1 q3 (by rw [hsl]; exact k2_hasslot (q4 k hk)) rfl rfl hdg fun H' e1 e2 e3 => ?_
  rw [hsl] at e1 ⊢
  refine kk H' _ (hI.put hi ?_ e2 e3 (fun q => hz (fun z1 => q (by rw [ts_ty_obj htab, ht, z1]))) (fun t' q => hr t' ?_))
  · show va_at D vwCl (am κ i, ts_E tab cA am (up3 S κ i k z) κ i) H'
    rw [ts_E_obj htab]
    refine ⟨_, hc, t_OB.to (V := updV (vp_V (ts_L am (S κ i) 0 ts)) k (ts_V am t z)) ⟨_, e1, q2, q3, t_set q4 hap hk _⟩ (fun j _ => ?_)⟩
    have hl : k < (ts_L am (S κ i) 0 ts).length := by
      rw [ts_L_len]
      exact (List.getElem?_eq_some_iff.mp ht).1
    rw [vp_updV_set hl, ts_L_set ht]
    congr 2
    funext b
    simp [up3]
  · rw [ts_ty_obj htab, ht] at q
    exact Option.some.inj q
end TSR
