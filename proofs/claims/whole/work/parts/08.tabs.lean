/-! The two systems as typed stores: TX the class (0 the yard, 1 its row of lanes, 2 the lanes' array, 3 the doors' array, 4 the appointments' array, 5 lanes, 6 the lanes' arrays of trailers, 7 doors, 8 appointments), TM the model (0 the object; an array has the number of its field). -/
def TX : ts_Tab := fun κ => match κ with
  | 0 => .inl (6, [3, 5, 0, 6, 0, 0, 0, 0, 0, 0, 0, 0, 1])
  | 1 => .inl (5, [4, 0])
  | 2 => .inr (4, 7, .object RX2)
  | 3 => .inr (4, 9, .object RX1)
  | 4 => .inr (40, 10, .object RX0)
  | 5 => .inl (4, [0, 0, 0, 8, 0])
  | 6 => .inr (3, 10, .object RX0)
  | 7 => .inl (3, [0, 0])
  | 8 => .inl (2, [0, 0, 0, 0, 0, 0, 0, 7, 0, 9])
  | 9 => .inr (1, 1, .long)
  | _ => .inl (6, [])
def TM : ts_Tab := fun κ => match κ with
  | 0 => .inl (7, [0, 3, 4, 5, 6, 0, 8, 9, 0, 11, 12, 13, 14, 15, 16, 17, 0, 0, 0, 0, 0, 0, 0, 1, 0])
  | 1 => .inr (4, 0, .int)
  | 2 => .inr (4, 0, .boolean)
  | 3 => .inr (4, 0, .int)
  | 4 => .inr (12, 0, .int)
  | 6 => .inr (4, 0, .char)
  | 7 => .inr (4, 0, .int)
  | 9 => .inr (40, 0, .int)
  | 10 => .inr (40, 0, .char)
  | 11 => .inr (40, 0, .int)
  | 12 => .inr (40, 0, .char)
  | 13 => .inr (40, 0, .int)
  | 14 => .inr (40, 0, .int)
  | 15 => .inr (40, 0, .int)
  | _ => .inl (7, [])
noncomputable def zB (P : Prop) : Int := @ite Int P (Classical.propDecidable P) 1 0
theorem zB_t {P : Prop} (h : P) : zB P = 1 := by unfold zB; rw [if_pos h]
theorem zB_f {P : Prop} (h : ¬ P) : zB P = 0 := by unfold zB; rw [if_neg h]
theorem zB_0 {P : Prop} (h : zB P = 0) : ¬ P := fun q => by rw [zB_t q] at h; cases h
theorem zB_1 {P : Prop} (h : ¬ zB P = 0) : P := Classical.byContradiction fun q => h (zB_f q)
theorem zB_R (P : Prop) : 0 ≤ zB P ∧ zB P < 2 := by
  by_cases h : P
  · rw [zB_t h]; decide
  · rw [zB_f h]; decide
theorem zB_bd (P : Prop) : ts_bd (zB P) := by have := zB_R P; constructor <;> omega
theorem zB_iR (P : Prop) : iR (zB P) := by have := zB_R P; constructor <;> omega
theorem zB_iff {P Q : Prop} (h : P ↔ Q) : zB P = zB Q := by rw [propext h]
theorem nar_int (z : Int) : narrow .int (.int (iZ z)) = .int (iZ z) := rfl
theorem fit_int (z : Int) : fits .int (.int (iZ z)) = true := rfl
section ZTB
variable {p : Program} {l : Launch} {e : Env} {R : Room} {s : State} {m : MethodId} {args : Array Value} {below : List Frame} {meth : Method} {c : Code} {H : Heap} {locs : List Loc} {cells slots : Nat} {Q : State → Prop} {cc : ByteArray} {pc : Nat} {ls : Array Slot} {rest : List Value}
variable {tab : ts_Tab} {D : va_G} {cA : Nat → ClassId} {A : Nat → Prop} {H0 : Heap} {n : Nat → Nat} {am : ts_Am} {S : ts_St} {κ i k : Nat}
theorem zp_i (hexec : p.tables.exec = Jvm.exec) (hb : c.code = cc) {own ref C : String} {T : u_T} {N ci index : Nat} {ts : List Nat} (hL : ∀ w ∈ u_ws C T N, w.before args s = true) (ty0 : Nat → FieldType) (hty : ∀ k, k < N → parseFieldDescriptor (T k).2.2.1 = some (ty0 k)) (hnm : ∀ a, a < N → ∀ b, b < N → a ≠ b → (T a).2.1 ≠ (T b).2.1) (hown : s.vm.findClass own = some m.cls) (hK : ts_K tab D cA s) (hI : ts_I tab D cA A H0 (n, am, S) H locs) (hi : i < n κ) (htab : tab κ = .inl (ci, ts)) (hc : vwCl[ci]? = some (C, T, N)) (hk : k < N) (ht : ts[k]? = some (0)) (hlink : (Cond.fieldLink own index ref (T k).2.1 (T k).2.2.1).before args s = true) (hsame : ∀ x, s.fieldFound? (T k).1 (T k).2.1 (T k).2.2.1 = some x → s.fieldFound? ref (T k).2.1 (T k).2.2.1 = some x) (hfin : (T k).2.2.2 = false) {z : Int} (hn : narrow (ty0 k) (.int (iZ z)) = .int (iZ z)) (hfit : fits (ty0 k) (.int (iZ z)) = true) (hz : ts_bd z) (hdg : decode cc pc = .ok (.putfield index, 3))
    (kk : ∀ (H1 : Heap) (locs1 : List Loc), ts_I tab D cA A H0 (n, am, up3 S κ i k z) H1 locs1 → W p l e R s m args below meth c H1 locs1 cells slots Q (F0 m (pc + 3) ls rest)) : W p l e R s m args below meth c H locs cells slots Q (F0 m pc ls (.int (iZ z) :: .ref (am κ i) :: rest)) :=
  zp (t := 0) (z := z) hexec hb hL ty0 hty hnm hown hK hI hi htab hc hk ht hlink hsame hfin hn hfit (fun _ => hz) (fun t q => by omega) hdg kk
theorem zp_l (hexec : p.tables.exec = Jvm.exec) (hb : c.code = cc) {own ref C : String} {T : u_T} {N ci index : Nat} {ts : List Nat} (hL : ∀ w ∈ u_ws C T N, w.before args s = true) (ty0 : Nat → FieldType) (hty : ∀ k, k < N → parseFieldDescriptor (T k).2.2.1 = some (ty0 k)) (hnm : ∀ a, a < N → ∀ b, b < N → a ≠ b → (T a).2.1 ≠ (T b).2.1) (hown : s.vm.findClass own = some m.cls) (hK : ts_K tab D cA s) (hI : ts_I tab D cA A H0 (n, am, S) H locs) (hi : i < n κ) (htab : tab κ = .inl (ci, ts)) (hc : vwCl[ci]? = some (C, T, N)) (hk : k < N) (ht : ts[k]? = some (1)) (hlink : (Cond.fieldLink own index ref (T k).2.1 (T k).2.2.1).before args s = true) (hsame : ∀ x, s.fieldFound? (T k).1 (T k).2.1 (T k).2.2.1 = some x → s.fieldFound? ref (T k).2.1 (T k).2.2.1 = some x) (hfin : (T k).2.2.2 = false) {z : Int} (hn : narrow (ty0 k) (.long (lZ z)) = .long (lZ z)) (hfit : fits (ty0 k) (.long (lZ z)) = true) (hdg : decode cc pc = .ok (.putfield index, 3))
    (kk : ∀ (H1 : Heap) (locs1 : List Loc), ts_I tab D cA A H0 (n, am, up3 S κ i k z) H1 locs1 → W p l e R s m args below meth c H1 locs1 cells slots Q (F0 m (pc + 3) ls rest)) : W p l e R s m args below meth c H locs cells slots Q (F0 m pc ls (.long (lZ z) :: .ref (am κ i) :: rest)) :=
  zp (t := 1) (z := z) hexec hb hL ty0 hty hnm hown hK hI hi htab hc hk ht hlink hsame hfin hn hfit (fun q => absurd rfl q) (fun t q => by omega) hdg kk
theorem zp_n (hexec : p.tables.exec = Jvm.exec) (hb : c.code = cc) {own ref C : String} {T : u_T} {N ci index t : Nat} {ts : List Nat} (hL : ∀ w ∈ u_ws C T N, w.before args s = true) (ty0 : Nat → FieldType) (hty : ∀ k, k < N → parseFieldDescriptor (T k).2.2.1 = some (ty0 k)) (hnm : ∀ a, a < N → ∀ b, b < N → a ≠ b → (T a).2.1 ≠ (T b).2.1) (hown : s.vm.findClass own = some m.cls) (hK : ts_K tab D cA s) (hI : ts_I tab D cA A H0 (n, am, S) H locs) (hi : i < n κ) (htab : tab κ = .inl (ci, ts)) (hc : vwCl[ci]? = some (C, T, N)) (hk : k < N) (ht : ts[k]? = some (t + 2)) (hlink : (Cond.fieldLink own index ref (T k).2.1 (T k).2.2.1).before args s = true) (hsame : ∀ x, s.fieldFound? (T k).1 (T k).2.1 (T k).2.2.1 = some x → s.fieldFound? ref (T k).2.1 (T k).2.2.1 = some x) (hfin : (T k).2.2.2 = false) (hn : narrow (ty0 k) .null = .null) (hfit : fits (ty0 k) .null = true) (hdg : decode cc pc = .ok (.putfield index, 3))
    (kk : ∀ (H1 : Heap) (locs1 : List Loc), ts_I tab D cA A H0 (n, am, up3 S κ i k (-1)) H1 locs1 → W p l e R s m args below meth c H1 locs1 cells slots Q (F0 m (pc + 3) ls rest)) : W p l e R s m args below meth c H locs cells slots Q (F0 m pc ls (.null :: .ref (am κ i) :: rest)) := by
  rw [← ts_V_null am t (show (-1 : Int) < 0 by decide)] at hn hfit ⊢
  exact zp (t := t + 2) (z := -1) hexec hb hL ty0 hty hnm hown hK hI hi htab hc hk ht hlink hsame hfin hn hfit (fun _ => ⟨by decide, by decide⟩) (fun t q => by omega) hdg kk
theorem zp_r (hexec : p.tables.exec = Jvm.exec) (hb : c.code = cc) {own ref C : String} {T : u_T} {N ci index t j : Nat} {ts : List Nat} (hL : ∀ w ∈ u_ws C T N, w.before args s = true) (ty0 : Nat → FieldType) (hty : ∀ k, k < N → parseFieldDescriptor (T k).2.2.1 = some (ty0 k)) (hnm : ∀ a, a < N → ∀ b, b < N → a ≠ b → (T a).2.1 ≠ (T b).2.1) (hown : s.vm.findClass own = some m.cls) (hK : ts_K tab D cA s) (hI : ts_I tab D cA A H0 (n, am, S) H locs) (hi : i < n κ) (htab : tab κ = .inl (ci, ts)) (hc : vwCl[ci]? = some (C, T, N)) (hk : k < N) (ht : ts[k]? = some (t + 2)) (hlink : (Cond.fieldLink own index ref (T k).2.1 (T k).2.2.1).before args s = true) (hsame : ∀ x, s.fieldFound? (T k).1 (T k).2.1 (T k).2.2.1 = some x → s.fieldFound? ref (T k).2.1 (T k).2.2.1 = some x) (hfin : (T k).2.2.2 = false) (hn : narrow (ty0 k) (.ref (am t j)) = .ref (am t j)) (hfit : fits (ty0 k) (.ref (am t j)) = true) (hj : j < n t) (hz : ts_bd (j : Int)) (hdg : decode cc pc = .ok (.putfield index, 3))
    (kk : ∀ (H1 : Heap) (locs1 : List Loc), ts_I tab D cA A H0 (n, am, up3 S κ i k (j : Int)) H1 locs1 → W p l e R s m args below meth c H1 locs1 cells slots Q (F0 m (pc + 3) ls rest)) : W p l e R s m args below meth c H locs cells slots Q (F0 m pc ls (.ref (am t j) :: .ref (am κ i) :: rest)) := by
  rw [← ts_V_ref am t j] at hn hfit ⊢
  exact zp (t := t + 2) (z := (j : Int)) hexec hb hL ty0 hty hnm hown hK hI hi htab hc hk ht hlink hsame hfin hn hfit (fun _ => hz) (fun t9 q => by obtain rfl : t = t9 := Nat.add_right_cancel q; omega) hdg kk
theorem zpF_i (hexec : p.tables.exec = Jvm.exec) (hb : c.code = cc) {own ref C : String} {T : u_T} {N ci index : Nat} {ts : List Nat} (hL : ∀ w ∈ u_ws C T N, w.before args s = true) (ty0 : Nat → FieldType) (hty : ∀ k, k < N → parseFieldDescriptor (T k).2.2.1 = some (ty0 k)) (hnm : ∀ a, a < N → ∀ b, b < N → a ≠ b → (T a).2.1 ≠ (T b).2.1) (hown : s.vm.findClass own = some m.cls) (hK : ts_K tab D cA s) (hI : ts_I tab D cA A H0 (n, am, S) H locs) (hi : i < n κ) (htab : tab κ = .inl (ci, ts)) (hc : vwCl[ci]? = some (C, T, N)) (hk : k < N) (ht : ts[k]? = some (0)) (hlink : (Cond.fieldLink own index ref (T k).2.1 (T k).2.2.1).before args s = true) (hsame : ∀ x, s.fieldFound? (T k).1 (T k).2.1 (T k).2.2.1 = some x → s.fieldFound? ref (T k).2.1 (T k).2.2.1 = some x) (hfin : (T k).2.2.2 = true) (hin2 : meth.name = "<init>") (hdecl : (T k).1 = own) {z : Int} (hn : narrow (ty0 k) (.int (iZ z)) = .int (iZ z)) (hfit : fits (ty0 k) (.int (iZ z)) = true) (hz : ts_bd z) (hdg : decode cc pc = .ok (.putfield index, 3))
    (kk : ∀ (H1 : Heap) (locs1 : List Loc), ts_I tab D cA A H0 (n, am, up3 S κ i k z) H1 locs1 → W p l e R s m args below meth c H1 locs1 cells slots Q (F0 m (pc + 3) ls rest)) : W p l e R s m args below meth c H locs cells slots Q (F0 m pc ls (.int (iZ z) :: .ref (am κ i) :: rest)) :=
  zpF (t := 0) (z := z) hexec hb hL ty0 hty hnm hown hK hI hi htab hc hk ht hlink hsame hfin hin2 hdecl hn hfit (fun _ => hz) (fun t q => by omega) hdg kk
theorem zpF_l (hexec : p.tables.exec = Jvm.exec) (hb : c.code = cc) {own ref C : String} {T : u_T} {N ci index : Nat} {ts : List Nat} (hL : ∀ w ∈ u_ws C T N, w.before args s = true) (ty0 : Nat → FieldType) (hty : ∀ k, k < N → parseFieldDescriptor (T k).2.2.1 = some (ty0 k)) (hnm : ∀ a, a < N → ∀ b, b < N → a ≠ b → (T a).2.1 ≠ (T b).2.1) (hown : s.vm.findClass own = some m.cls) (hK : ts_K tab D cA s) (hI : ts_I tab D cA A H0 (n, am, S) H locs) (hi : i < n κ) (htab : tab κ = .inl (ci, ts)) (hc : vwCl[ci]? = some (C, T, N)) (hk : k < N) (ht : ts[k]? = some (1)) (hlink : (Cond.fieldLink own index ref (T k).2.1 (T k).2.2.1).before args s = true) (hsame : ∀ x, s.fieldFound? (T k).1 (T k).2.1 (T k).2.2.1 = some x → s.fieldFound? ref (T k).2.1 (T k).2.2.1 = some x) (hfin : (T k).2.2.2 = true) (hin2 : meth.name = "<init>") (hdecl : (T k).1 = own) {z : Int} (hn : narrow (ty0 k) (.long (lZ z)) = .long (lZ z)) (hfit : fits (ty0 k) (.long (lZ z)) = true) (hdg : decode cc pc = .ok (.putfield index, 3))
    (kk : ∀ (H1 : Heap) (locs1 : List Loc), ts_I tab D cA A H0 (n, am, up3 S κ i k z) H1 locs1 → W p l e R s m args below meth c H1 locs1 cells slots Q (F0 m (pc + 3) ls rest)) : W p l e R s m args below meth c H locs cells slots Q (F0 m pc ls (.long (lZ z) :: .ref (am κ i) :: rest)) :=
  zpF (t := 1) (z := z) hexec hb hL ty0 hty hnm hown hK hI hi htab hc hk ht hlink hsame hfin hin2 hdecl hn hfit (fun q => absurd rfl q) (fun t q => by omega) hdg kk
theorem zpF_n (hexec : p.tables.exec = Jvm.exec) (hb : c.code = cc) {own ref C : String} {T : u_T} {N ci index t : Nat} {ts : List Nat} (hL : ∀ w ∈ u_ws C T N, w.before args s = true) (ty0 : Nat → FieldType) (hty : ∀ k, k < N → parseFieldDescriptor (T k).2.2.1 = some (ty0 k)) (hnm : ∀ a, a < N → ∀ b, b < N → a ≠ b → (T a).2.1 ≠ (T b).2.1) (hown : s.vm.findClass own = some m.cls) (hK : ts_K tab D cA s) (hI : ts_I tab D cA A H0 (n, am, S) H locs) (hi : i < n κ) (htab : tab κ = .inl (ci, ts)) (hc : vwCl[ci]? = some (C, T, N)) (hk : k < N) (ht : ts[k]? = some (t + 2)) (hlink : (Cond.fieldLink own index ref (T k).2.1 (T k).2.2.1).before args s = true) (hsame : ∀ x, s.fieldFound? (T k).1 (T k).2.1 (T k).2.2.1 = some x → s.fieldFound? ref (T k).2.1 (T k).2.2.1 = some x) (hfin : (T k).2.2.2 = true) (hin2 : meth.name = "<init>") (hdecl : (T k).1 = own) (hn : narrow (ty0 k) .null = .null) (hfit : fits (ty0 k) .null = true) (hdg : decode cc pc = .ok (.putfield index, 3))
    (kk : ∀ (H1 : Heap) (locs1 : List Loc), ts_I tab D cA A H0 (n, am, up3 S κ i k (-1)) H1 locs1 → W p l e R s m args below meth c H1 locs1 cells slots Q (F0 m (pc + 3) ls rest)) : W p l e R s m args below meth c H locs cells slots Q (F0 m pc ls (.null :: .ref (am κ i) :: rest)) := by
  rw [← ts_V_null am t (show (-1 : Int) < 0 by decide)] at hn hfit ⊢
  exact zpF (t := t + 2) (z := -1) hexec hb hL ty0 hty hnm hown hK hI hi htab hc hk ht hlink hsame hfin hin2 hdecl hn hfit (fun _ => ⟨by decide, by decide⟩) (fun t q => by omega) hdg kk
theorem zpF_r (hexec : p.tables.exec = Jvm.exec) (hb : c.code = cc) {own ref C : String} {T : u_T} {N ci index t j : Nat} {ts : List Nat} (hL : ∀ w ∈ u_ws C T N, w.before args s = true) (ty0 : Nat → FieldType) (hty : ∀ k, k < N → parseFieldDescriptor (T k).2.2.1 = some (ty0 k)) (hnm : ∀ a, a < N → ∀ b, b < N → a ≠ b → (T a).2.1 ≠ (T b).2.1) (hown : s.vm.findClass own = some m.cls) (hK : ts_K tab D cA s) (hI : ts_I tab D cA A H0 (n, am, S) H locs) (hi : i < n κ) (htab : tab κ = .inl (ci, ts)) (hc : vwCl[ci]? = some (C, T, N)) (hk : k < N) (ht : ts[k]? = some (t + 2)) (hlink : (Cond.fieldLink own index ref (T k).2.1 (T k).2.2.1).before args s = true) (hsame : ∀ x, s.fieldFound? (T k).1 (T k).2.1 (T k).2.2.1 = some x → s.fieldFound? ref (T k).2.1 (T k).2.2.1 = some x) (hfin : (T k).2.2.2 = true) (hin2 : meth.name = "<init>") (hdecl : (T k).1 = own) (hn : narrow (ty0 k) (.ref (am t j)) = .ref (am t j)) (hfit : fits (ty0 k) (.ref (am t j)) = true) (hj : j < n t) (hz : ts_bd (j : Int)) (hdg : decode cc pc = .ok (.putfield index, 3))
    (kk : ∀ (H1 : Heap) (locs1 : List Loc), ts_I tab D cA A H0 (n, am, up3 S κ i k (j : Int)) H1 locs1 → W p l e R s m args below meth c H1 locs1 cells slots Q (F0 m (pc + 3) ls rest)) : W p l e R s m args below meth c H locs cells slots Q (F0 m pc ls (.ref (am t j) :: .ref (am κ i) :: rest)) := by
  rw [← ts_V_ref am t j] at hn hfit ⊢
  exact zpF (t := t + 2) (z := (j : Int)) hexec hb hL ty0 hty hnm hown hK hI hi htab hc hk ht hlink hsame hfin hin2 hdecl hn hfit (fun _ => hz) (fun t9 q => by obtain rfl : t = t9 := Nat.add_right_cancel q; omega) hdg kk
theorem z_max (hexec : p.tables.exec = Jvm.exec) (hb : c.code = cc) (hml : c.maxLocals = ls.size) {own : String} {index : Nat} (hown : s.vm.findClass own = some m.cls) (hlink : (Cond.methodLink own index Lib.Math.max.name).before args s = true) (hstat : (Cond.static Lib.Math.max.name).before args s = true) (hini : (Cond.initialized "java/lang/Math").before args s = true) (hcode : (Cond.code Lib.Math.max.name Lib.Math.max.code 2 (some .int)).before args s = true)
    (hframes : 1 ≤ R.frames) (hlocals : (rest.map fun v => v.category).sum + 13 ≤ R.locals) (hc : cells ≤ R.cells) (hs : slots ≤ R.slots) {a b : Int} (ha : iR a) (hb2 : iR b) (hdg : decode cc pc = .ok (.invokestatic index, 3))
    (kk : W p l e R s m args below meth c H locs cells slots Q (F0 m (pc + 3) ls (.int (iZ (max a b)) :: rest))) : W p l e R s m args below meth c H locs cells slots Q (F0 m pc ls (.int (iZ b) :: .int (iZ a) :: rest)) := by
  refine va_mmax hexec hb hml hown hlink hstat hini hcode hframes hlocals hc hs hdg ?_
  exact by
    by_cases h : a < b
    · rw [if_pos ((iZ_lt ha hb2).mpr h)]; rw [show max a b = b by omega] at kk; exact kk
    · rw [if_neg (fun q => h ((iZ_lt ha hb2).mp q))]; rw [show max a b = a by omega] at kk; exact kk
theorem z_min (hexec : p.tables.exec = Jvm.exec) (hb : c.code = cc) (hml : c.maxLocals = ls.size) {own : String} {index : Nat} (hown : s.vm.findClass own = some m.cls) (hlink : (Cond.methodLink own index Lib.Math.min.name).before args s = true) (hstat : (Cond.static Lib.Math.min.name).before args s = true) (hini : (Cond.initialized "java/lang/Math").before args s = true) (hcode : (Cond.code Lib.Math.min.name Lib.Math.min.code 2 (some .int)).before args s = true)
    (hframes : 1 ≤ R.frames) (hlocals : (rest.map fun v => v.category).sum + 13 ≤ R.locals) (hc : cells ≤ R.cells) (hs : slots ≤ R.slots) {a b : Int} (ha : iR a) (hb2 : iR b) (hdg : decode cc pc = .ok (.invokestatic index, 3))
    (kk : W p l e R s m args below meth c H locs cells slots Q (F0 m (pc + 3) ls (.int (iZ (min a b)) :: rest))) : W p l e R s m args below meth c H locs cells slots Q (F0 m pc ls (.int (iZ b) :: .int (iZ a) :: rest)) := by
  refine va_mmin hexec hb hml hown hlink hstat hini hcode hframes hlocals hc hs hdg ?_
  exact by
    by_cases h : b < a
    · rw [if_pos ((iZ_lt hb2 ha).mpr h)]; rw [show min a b = b by omega] at kk; exact kk
    · rw [if_neg (fun q => h ((iZ_lt hb2 ha).mp q))]; rw [show min a b = a by omega] at kk; exact kk
end ZTB
