/-! The model's search, as a matter of numbers: what is equal for it, one move, reaching. -/
def mTop (S : ts_St) (a : Int) : Int := S 4 0 (3 * a + S 3 0 a.toNat - 1).toNat
def mMv (S : ts_St) (a b : Int) : ts_St := mComes (up3 S 3 0 a.toNat (S 3 0 a.toNat - 1)) (mTop S a) b
def mOk (S : ts_St) (t a b : Int) : Prop := ¬ a = b ∧ ¬ S 3 0 a.toNat = 0 ∧ ¬ mTop S a = t ∧ mCome S (mTop S a).toNat b.toNat
def mRch : Nat → ts_St → Int → Prop
  | 0, S, t => mAhead S t = 0
  | d + 1, S, t => mAhead S t = 0 ∨ (mAhead S t ≤ (d : Int) + 1 ∧ ∃ a b : Int, (0 ≤ a ∧ a < S 0 0 0) ∧ (0 ≤ b ∧ b < S 0 0 0) ∧ mOk S t a b ∧ mRch d (mMv S a b) t)
/-- equal but for what lies in slots that hold nothing -/
def mEq (S S' : ts_St) : Prop := (∀ κ i k : Nat, ¬ κ = 4 → S' κ i k = S κ i k) ∧ ∀ l j : Nat, (j : Int) < S 3 0 l → j < 3 → S' 4 0 (3 * l + j) = S 4 0 (3 * l + j)
theorem mEq.rfl' (S : ts_St) : mEq S S := ⟨fun _ _ _ _ => rfl, fun _ _ _ _ => rfl⟩
theorem mEq.c {S S' : ts_St} (h : mEq S S') (l : Nat) : S' 3 0 l = S 3 0 l := h.1 3 0 l (by decide)
theorem mEq.trans {S S' S'' : ts_St} (h : mEq S S') (h2 : mEq S' S'') : mEq S S'' :=
  ⟨fun κ i k q => (h2.1 κ i k q).trans (h.1 κ i k q), fun l j q1 q2 => (h2.2 l j (by rw [h.c]; exact q1) q2).trans (h.2 l j q1 q2)⟩
theorem mEq.symm {S S' : ts_St} (h : mEq S S') : mEq S' S :=
  ⟨fun κ i k q => (h.1 κ i k q).symm, fun l j q1 q2 => (h.2 l j (by rw [← h.c]; exact q1) q2).symm⟩
theorem mEq.W {n : Nat → Nat} {S S' : ts_St} (h : mEq S S') (hW : mW n S) : mW n S' := ⟨hW.1, fun f hf => (h.1 0 0 f (by decide)).trans (hW.2 f hf)⟩
theorem mEq.R {S S' : ts_St} (h : mEq S S') (hR : mR S) : mR S' := by
  have e : ∀ κ k : Nat, ¬ κ = 4 → S' κ 0 k = S κ 0 k := fun κ k q => h.1 κ 0 k q
  unfold mR at hR ⊢
  simp only [e 0 _ (by decide), e 3 _ (by decide), e 9 _ (by decide), e 13 _ (by decide), e 14 _ (by decide), e 11 _ (by decide), e 12 _ (by decide), e 10 _ (by decide), e 15 _ (by decide), e 1 _ (by decide)]
  exact hR
/-- what stands in slots are trailers -/
def mLv (S : ts_St) : Prop := ∀ l j : Nat, (j : Int) < S 3 0 l → 0 ≤ S 4 0 (3 * l + j) ∧ S 4 0 (3 * l + j) < 40
/-- where a search may begin -/
def mIv (S : ts_St) (t : Int) : Prop := mR S ∧ mLv S ∧ 0 ≤ mSlot S t
theorem mEq.Lv {S S' : ts_St} (h : mEq S S') (hR : mR S) (hL : mLv S) : mLv S' := by
  intro l j q
  rw [h.c] at q
  have := hR.2.1 l
  rw [h.2 l j q (by omega)]
  exact hL l j q
theorem mFindK_eq {S S' : ts_St} {t : Int} {y : Nat} (h : mEq S S') : ∀ k : Nat, (k : Int) ≤ S 3 0 y → k ≤ 3 → mFindK S' t y k = mFindK S t y k
  | 0, _, _ => rfl
  | k + 1, h1, h2 => by
    simp only [mFindK]
    rw [mFindK_eq h k (by omega) (by omega), h.2 y k (by omega) (by omega)]
theorem mSlot_eq {S S' : ts_St} {t : Int} (h : mEq S S') (hc : ∀ l : Nat, 0 ≤ S 3 0 l ∧ S 3 0 l ≤ 3) : mSlot S' t = mSlot S t := by
  have hF : ∀ y, mFind S' t y = mFind S t y := by
    intro y
    induction y with
    | zero => rfl
    | succ y ih =>
      simp only [mFind]
      have := hc y
      rw [ih, h.c, mFindK_eq h _ (by omega) (by omega)]
  unfold mSlot
  rw [hF, h.1 0 0 0 (by decide)]
theorem mAhead_eq {S S' : ts_St} {t : Int} (h : mEq S S') (hc : ∀ l : Nat, 0 ≤ S 3 0 l ∧ S 3 0 l ≤ 3) : mAhead S' t = mAhead S t := by
  unfold mAhead
  rw [mSlot_eq h hc, h.c]
theorem mEq.Iv {S S' : ts_St} {t : Int} (h : mEq S S') (hI : mIv S t) : mIv S' t := ⟨h.R hI.1, h.Lv hI.1 hI.2.1, by rw [mSlot_eq h hI.1.2.1]; exact hI.2.2⟩
theorem mTop_ix {S : ts_St} {a : Int} (ha : 0 ≤ a) (h1 : 1 ≤ S 3 0 a.toNat) : (3 * a + S 3 0 a.toNat - 1).toNat = 3 * a.toNat + (S 3 0 a.toNat - 1).toNat := by omega
theorem mTop_eq {S S' : ts_St} {a : Int} (h : mEq S S') (hc : ∀ l : Nat, 0 ≤ S 3 0 l ∧ S 3 0 l ≤ 3) (ha : 0 ≤ a) (h1 : ¬ S 3 0 a.toNat = 0) : mTop S' a = mTop S a := by
  have h2 := hc a.toNat
  unfold mTop
  rw [h.c, mTop_ix ha (by omega), h.2 _ _ (by omega) (by omega)]
theorem mTop_R {S : ts_St} {a : Int} (hR : mR S) (hL : mLv S) (ha : 0 ≤ a) (h1 : ¬ S 3 0 a.toNat = 0) : 0 ≤ mTop S a ∧ mTop S a < 40 := by
  have h2 := hR.2.1 a.toNat
  unfold mTop
  rw [mTop_ix ha (by omega)]
  exact hL _ _ (by omega)
theorem mOk_eq {S S' : ts_St} {t a b : Int} (h : mEq S S') (hc : ∀ l : Nat, 0 ≤ S 3 0 l ∧ S 3 0 l ≤ 3) (ha : 0 ≤ a) : mOk S' t a b ↔ mOk S t a b := by
  by_cases h1 : S 3 0 a.toNat = 0
  · exact ⟨fun q => absurd ((h.c _).trans h1) q.2.1, fun q => absurd h1 q.2.1⟩
  · unfold mOk mCome
    rw [mTop_eq h hc ha h1, h.c, h.c, h.1 1 0 _ (by decide), h.1 10 0 _ (by decide), h.1 2 0 _ (by decide)]
theorem mComes_3 (S : ts_St) (t y : Int) (l : Nat) : mComes S t y 3 0 l = if l = y.toNat then S 3 0 y.toNat + 1 else S 3 0 l := by
  unfold mComes up3
  by_cases h : l = y.toNat
  · rw [if_pos ⟨rfl, rfl, h⟩, if_pos h]
  · rw [if_neg (fun q => h q.2.2), if_neg (by omega), if_neg h]
theorem mComes_4 (S : ts_St) (t y : Int) (k : Nat) : mComes S t y 4 0 k = if k = (3 * y + S 3 0 y.toNat).toNat then t else S 4 0 k := by
  unfold mComes up3
  rw [if_neg (by omega)]
  by_cases h : k = (3 * y + S 3 0 y.toNat).toNat
  · rw [if_pos ⟨rfl, rfl, h⟩, if_pos h]
  · rw [if_neg (fun q => h q.2.2), if_neg h]
theorem mMv_3 {S : ts_St} {a b : Int} (hab : ¬ a = b) (ha : 0 ≤ a) (hb : 0 ≤ b) (l : Nat) : mMv S a b 3 0 l = if l = a.toNat then S 3 0 l - 1 else if l = b.toNat then S 3 0 l + 1 else S 3 0 l := by
  unfold mMv
  rw [mComes_3]
  by_cases h1 : l = b.toNat
  · rw [if_pos h1, up3_n (by omega), if_neg (by omega), if_pos h1, h1]
  · rw [if_neg h1, if_neg h1]
    by_cases h2 : l = a.toNat
    · rw [if_pos h2, h2, up3_s]
    · rw [if_neg h2, up3_n (by omega)]
theorem mMv_4 {S : ts_St} {a b : Int} (hab : ¬ a = b) (ha : 0 ≤ a) (hb : 0 ≤ b) (k : Nat) : mMv S a b 4 0 k = if k = (3 * b + S 3 0 b.toNat).toNat then mTop S a else S 4 0 k := by
  unfold mMv
  rw [mComes_4, up3_n (by omega), up3_n (by omega)]
theorem mMv_n {S : ts_St} {a b : Int} {κ i k : Nat} (h : ¬ (κ = 3 ∨ κ = 4)) : mMv S a b κ i k = S κ i k := by
  unfold mMv
  rw [mComes_n h, up3_n (by omega)]
theorem mMv_eq {S S' : ts_St} {a b : Int} (h : mEq S S') (hc : ∀ l : Nat, 0 ≤ S 3 0 l ∧ S 3 0 l ≤ 3) (hab : ¬ a = b) (ha : 0 ≤ a) (hb : 0 ≤ b) (h1 : ¬ S 3 0 a.toNat = 0) (h3 : S 3 0 b.toNat < 3) : mEq (mMv S a b) (mMv S' a b) := by
  refine ⟨fun κ i k q => ?_, fun l j q1 q2 => ?_⟩
  · by_cases q3 : κ = 3
    · subst q3
      by_cases qi : i = 0
      · subst qi
        rw [mMv_3 hab ha hb, mMv_3 hab ha hb, h.c]
      · unfold mMv mComes
        rw [up3_n (by omega), up3_n (by omega), up3_n (by omega), up3_n (by omega), up3_n (by omega), up3_n (by omega)]
        exact h.1 3 i k q
    · rw [mMv_n (by omega), mMv_n (by omega)]
      exact h.1 κ i k q
  · have hl := hc l
    have hb2 := hc b.toNat
    rw [mMv_3 hab ha hb] at q1
    rw [mMv_4 hab ha hb, mMv_4 hab ha hb, h.c, mTop_eq h hc ha h1]
    by_cases q3 : 3 * l + j = (3 * b + S 3 0 b.toNat).toNat
    · rw [if_pos q3, if_pos q3]
    · rw [if_neg q3, if_neg q3]
      refine h.2 l j ?_ q2
      by_cases q4 : l = a.toNat
      · rw [if_pos q4] at q1
        omega
      · rw [if_neg q4] at q1
        by_cases q5 : l = b.toNat
        · rw [if_pos q5] at q1
          subst q5
          omega
        · rw [if_neg q5] at q1
          exact q1
theorem mOk_cap {S : ts_St} {t a b : Int} (hR : mR S) (h : mOk S t a b) : S 3 0 b.toNat < 3 := by
  have h1 := h.2.2.2.1
  have h2 := hR.2.2.2 b.toNat
  omega
theorem mSlot_of {S : ts_St} {t : Int} (hl : 0 ≤ S 0 0 0) {l j : Nat} (h1 : (l : Int) < S 0 0 0) (h2 : (j : Int) < S 3 0 l) (h3 : S 4 0 (3 * l + j) = t) : 0 ≤ mSlot S t := by
  refine Int.not_lt.mp fun q => ?_
  unfold mSlot at q
  exact mFind_none _ q l j (by omega) h2 h3
theorem mSlot_in {S : ts_St} {t : Int} (h : 0 ≤ mSlot S t) : ∃ l j : Nat, (l : Int) < S 0 0 0 ∧ (j : Int) < S 3 0 l ∧ mSlot S t = 3 * (l : Int) + (j : Int) ∧ S 4 0 (3 * l + j) = t := by
  obtain ⟨a, j, h1, h2, h3, h4⟩ := mFind_in _ h
  exact ⟨a, j, by omega, h2, h3, h4⟩
theorem mMv_R {S : ts_St} {t a b : Int} (hR : mR S) (hab : mOk S t a b) : mR (mMv S a b) := by
  have h1 := hR.2.1 a.toNat
  have h2 := hR.2.1 b.toNat
  have h3 := mOk_cap hR hab
  have h4 := hab.2.1
  unfold mMv mComes
  have q1 : mR (up3 S 3 0 a.toNat (S 3 0 a.toNat - 1)) := hR.put (by unfold mRv; omega)
  have q2 := q1.2.1 b.toNat
  have q3 : up3 S 3 0 a.toNat (S 3 0 a.toNat - 1) 3 0 b.toNat ≤ S 3 0 b.toNat := by
    unfold up3
    split
    · rename_i q
      rw [q.2.2]
      omega
    · omega
  refine (q1.put (by unfold mRv; omega)).put ?_
  unfold mRv
  omega
theorem mMv_Iv {S : ts_St} {t a b : Int} (hI : mIv S t) (ha : 0 ≤ a) (hb : 0 ≤ b) (hab : mOk S t a b) : mIv (mMv S a b) t := by
  obtain ⟨hR, hL, hs⟩ := hI
  have hc := hR.2.1
  have h3 := mOk_cap hR hab
  have ht := mTop_R hR hL ha hab.2.1
  refine ⟨mMv_R hR hab, fun l j q => ?_, ?_⟩
  · rw [mMv_3 hab.1 ha hb] at q
    rw [mMv_4 hab.1 ha hb]
    by_cases q3 : 3 * l + j = (3 * b + S 3 0 b.toNat).toNat
    · rw [if_pos q3]
      exact ht
    · rw [if_neg q3]
      refine hL l j ?_
      by_cases q4 : l = a.toNat
      · rw [if_pos q4] at q
        omega
      · rw [if_neg q4] at q
        by_cases q5 : l = b.toNat
        · rw [if_pos q5] at q
          subst q5
          have := hc b.toNat
          omega
        · rw [if_neg q5] at q
          exact q
  · obtain ⟨l, j, h4, h5, -, h6⟩ := mSlot_in hs
    have hla := hc l
    have hbb := hc b.toNat
    have haa := hc a.toNat
    have hne : ¬ (l = a.toNat ∧ j = (S 3 0 a.toNat - 1).toNat) := by
      rintro ⟨rfl, rfl⟩
      apply hab.2.2.1
      unfold mTop
      rw [mTop_ix ha (by have := hab.2.1; omega)]
      exact h6
    refine mSlot_of (by rw [mMv_n (by omega)]; exact hR.1.1.1) (l := l) (j := j) (by rw [mMv_n (by omega)]; exact h4) ?_ ?_
    · rw [mMv_3 hab.1 ha hb]
      by_cases q4 : l = a.toNat
      · rw [if_pos q4]
        subst q4
        omega
      · rw [if_neg q4]
        split
        · omega
        · exact h5
    · rw [mMv_4 hab.1 ha hb, if_neg]
      · exact h6
      · intro q
        have : l = b.toNat := by omega
        subst this
        omega
theorem mRch_eq {t : Int} : ∀ (d : Nat) {S S' : ts_St}, mEq S S' → mIv S t → (mRch d S' t ↔ mRch d S t)
  | 0, S, S', h, hI => by
    show mAhead S' t = 0 ↔ mAhead S t = 0
    rw [mAhead_eq h hI.1.2.1]
  | d + 1, S, S', h, hI => by
    have hc := hI.1.2.1
    show (mAhead S' t = 0 ∨ (mAhead S' t ≤ (d : Int) + 1 ∧ ∃ a b : Int, (0 ≤ a ∧ a < S' 0 0 0) ∧ (0 ≤ b ∧ b < S' 0 0 0) ∧ mOk S' t a b ∧ mRch d (mMv S' a b) t)) ↔ (mAhead S t = 0 ∨ (mAhead S t ≤ (d : Int) + 1 ∧ ∃ a b : Int, (0 ≤ a ∧ a < S 0 0 0) ∧ (0 ≤ b ∧ b < S 0 0 0) ∧ mOk S t a b ∧ mRch d (mMv S a b) t))
    rw [mAhead_eq h hc, h.1 0 0 0 (by decide)]
    have key : ∀ a b : Int, (0 ≤ a ∧ a < S 0 0 0) → (0 ≤ b ∧ b < S 0 0 0) → ((mOk S' t a b ∧ mRch d (mMv S' a b) t) ↔ (mOk S t a b ∧ mRch d (mMv S a b) t)) := by
      intro a b ha hb
      rw [mOk_eq h hc ha.1]
      refine and_congr_right fun hab => ?_
      exact mRch_eq d (mMv_eq h hc hab.1 ha.1 hb.1 hab.2.1 (mOk_cap hI.1 hab)) (mMv_Iv hI ha.1 hb.1 hab)
    refine or_congr_right (and_congr_right fun _ => ⟨?_, ?_⟩)
    · rintro ⟨a, b, ha, hb, q⟩
      exact ⟨a, b, ha, hb, (key a b ha hb).mp q⟩
    · rintro ⟨a, b, ha, hb, q⟩
      exact ⟨a, b, ha, hb, (key a b ha hb).mpr q⟩
/-- moved there and back -/
theorem mBack {S S2 : ts_St} {a b : Int} (hc : ∀ l : Nat, 0 ≤ S 3 0 l ∧ S 3 0 l ≤ 3) (hab : ¬ a = b) (ha : 0 ≤ a) (hb : 0 ≤ b) (h1 : ¬ S 3 0 a.toNat = 0) (h3 : S 3 0 b.toNat < 3) (h : mEq (mMv S a b) S2) : mEq S (mComes (up3 S2 3 0 b.toNat (S2 3 0 b.toNat - 1)) (mTop S a) a) := by
  have hA := hc a.toNat
  have hB := hc b.toNat
  have c3 : ∀ l, S2 3 0 l = if l = a.toNat then S 3 0 l - 1 else if l = b.toNat then S 3 0 l + 1 else S 3 0 l := fun l => (h.c l).trans (mMv_3 hab ha hb l)
  have hne : a.toNat ≠ b.toNat := by omega
  refine ⟨fun κ i k q => ?_, fun l j q1 q2 => ?_⟩
  · by_cases q3 : κ = 3
    · subst q3
      by_cases qi : i = 0
      · subst qi
        rw [mComes_3]
        by_cases qa : k = a.toNat
        · rw [if_pos qa, up3_n (by omega), c3, if_pos rfl, qa]
          omega
        · rw [if_neg qa]
          by_cases qb : k = b.toNat
          · rw [qb, up3_s, c3, if_neg (by omega), if_pos rfl]
            omega
          · rw [up3_n (by omega), c3, if_neg qa, if_neg qb]
      · unfold mComes
        rw [up3_n (by omega), up3_n (by omega), up3_n (by omega), h.1 3 i k (by decide)]
        unfold mMv mComes
        rw [up3_n (by omega), up3_n (by omega), up3_n (by omega)]
    · rw [mComes_n (by omega), up3_n (by omega), h.1 κ i k q, mMv_n (by omega)]
  · have hl := hc l
    rw [mComes_4, up3_n (by omega), c3, if_pos rfl]
    by_cases q3 : 3 * l + j = (3 * a + (S 3 0 a.toNat - 1)).toNat
    · rw [if_pos q3]
      unfold mTop
      congr 1
      omega
    · rw [if_neg q3, up3_n (by omega), h.2 l j ?_ q2, mMv_4 hab ha hb, if_neg]
      · intro q
        have : l = b.toNat := by omega
        subst this
        omega
      · rw [mMv_3 hab ha hb]
        by_cases q4 : l = a.toNat
        · rw [if_pos q4]
          subst q4
          omega
        · rw [if_neg q4]
          split
          · omega
          · exact q1
def mT (d : Nat) (S : ts_St) (t a b : Int) : Prop := mOk S t a b ∧ mRch d (mMv S a b) t
def mEx (d : Nat) (S : ts_St) (t y : Int) : Prop := ∃ a b : Int, (0 ≤ a ∧ a < y) ∧ (0 ≤ b ∧ b < S 0 0 0) ∧ mT d S t a b
def mEx2 (d : Nat) (S : ts_St) (t y w : Int) : Prop := mEx d S t y ∨ ∃ b : Int, (0 ≤ b ∧ b < w) ∧ mT d S t y b
theorem mEx_0 {d : Nat} {S : ts_St} {t : Int} : ¬ mEx d S t 0 := by
  rintro ⟨a, b, h1, -⟩
  omega
theorem mEx2_0 {d : Nat} {S : ts_St} {t y : Int} : mEx2 d S t y 0 ↔ mEx d S t y := by
  refine ⟨?_, Or.inl⟩
  rintro (h | ⟨b, h1, -⟩)
  · exact h
  · omega
theorem mEx2_s {d : Nat} {S : ts_St} {t y w : Int} (h : ¬ mEx2 d S t y w) (hw : 0 ≤ w) : mEx2 d S t y (w + 1) ↔ mT d S t y w := by
  constructor
  · rintro (h1 | ⟨b, h1, h2⟩)
    · exact absurd (Or.inl h1) h
    · by_cases hb : b = w
      · rw [← hb]
        exact h2
      · exact absurd (Or.inr ⟨b, by omega, h2⟩) h
  · exact fun q => Or.inr ⟨w, by omega, q⟩
theorem mEx_s {d : Nat} {S : ts_St} {t y w : Int} (hy : 0 ≤ y) (h : mEx2 d S t y w) (hw : w ≤ S 0 0 0) : mEx d S t (y + 1) := by
  rcases h with ⟨a, b, h1, h2, h3⟩ | ⟨b, h1, h2⟩
  · exact ⟨a, b, by omega, h2, h3⟩
  · exact ⟨y, b, by omega, by omega, h2⟩
theorem mEx_n {d : Nat} {S : ts_St} {t y w : Int} (h : ¬ mEx2 d S t y w) (hw : w = S 0 0 0) : ¬ mEx d S t (y + 1) := by
  rintro ⟨a, b, h1, h2, h3⟩
  by_cases ha : a = y
  · subst ha
    exact h (Or.inr ⟨b, by omega, h3⟩)
  · exact h (Or.inl ⟨a, b, by omega, h2, h3⟩)
theorem mRch_ex {d : Nat} {S : ts_St} {t y : Int} (h0 : ¬ mAhead S t = 0) (h1 : mAhead S t ≤ (d : Int) + 1) (h : mEx d S t y) (hy : y ≤ S 0 0 0) : mRch (d + 1) S t := by
  obtain ⟨a, b, h2, h3, h4⟩ := h
  exact Or.inr ⟨h1, a, b, by omega, h3, h4⟩
theorem mRch_nex {d : Nat} {S : ts_St} {t y : Int} (h0 : ¬ mAhead S t = 0) (h : ¬ mEx d S t y) (hy : y = S 0 0 0) : ¬ mRch (d + 1) S t := by
  rintro (q | ⟨-, a, b, h2, h3, h4⟩)
  · exact h0 q
  · exact h ⟨a, b, by omega, h3, h4⟩
theorem mT_eq {d : Nat} {S S' : ts_St} {t a b : Int} (h : mEq S S') (hI : mIv S t) (ha : 0 ≤ a) (hb : 0 ≤ b) : mT d S' t a b ↔ mT d S t a b := by
  unfold mT
  rw [mOk_eq h hI.1.2.1 ha]
  exact and_congr_right fun hab => mRch_eq d (mMv_eq h hI.1.2.1 hab.1 ha hb hab.2.1 (mOk_cap hI.1 hab)) (mMv_Iv hI ha hb hab)
theorem mRch_le {d : Nat} {S : ts_St} {t : Int} (h0 : ¬ mAhead S t = 0) (h : (d : Int) + 1 < mAhead S t) : ¬ mRch (d + 1) S t := by
  rintro (q | ⟨q, -⟩)
  · exact h0 q
  · omega
theorem mAhead_R {S : ts_St} {t : Int} (hc : ∀ l : Nat, 0 ≤ S 3 0 l ∧ S 3 0 l ≤ 3) (hs : 0 ≤ mSlot S t) : 0 ≤ mAhead S t ∧ mAhead S t ≤ 2 := by
  obtain ⟨l, j, h1, h2, h3, h4⟩ := mSlot_in hs
  have hl := hc l
  have e1 : (mSlot S t / 3).toNat = l := by omega
  have e2 : mSlot S t % 3 = j := by omega
  unfold mAhead
  rw [e1, e2]
  omega
