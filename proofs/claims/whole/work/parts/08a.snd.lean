/-! SOUNDNESS of the small machine, part 1: its states as the machine's heaps -/
abbrev mG : Type := va_G × (ClassId × ClassId × ClassId × ClassId) × (Nat → Nat) × Nat × Nat × (Nat → Int32) × (Nat → Nat)
abbrev gD (G : mG) : va_G := G.1
abbrev gI (G : mG) : ClassId := G.2.1.1
abbrev gB (G : mG) : ClassId := G.2.1.2.1
abbrev gJ (G : mG) : ClassId := G.2.1.2.2.1
abbrev gO (G : mG) : ClassId := G.2.1.2.2.2
abbrev gA (G : mG) : Nat → Nat := G.2.2.1
abbrev gZ (G : mG) : Nat := G.2.2.2.1
abbrev gL (G : mG) : Nat := G.2.2.2.2.1
abbrev gX (G : mG) : Nat → Int32 := G.2.2.2.2.2.1
abbrev gV (G : mG) : Nat → Nat := G.2.2.2.2.2.2
/-- the cells that may change: all that were made behind the law's entry -/
def mA (G : mG) : Nat → Prop := fun q => gZ G ≤ q
def mNo (j : Nat) : Int32 := nI ([0, 0, 32, 275, 1299].getD j 0)
def mRv (ad : Nat → Nat) : Value → Value
  | .ref a => .ref (ad a)
  | v => v
def mFv (ad : Nat → Nat) (a : Nat) (f : Nat → Int32) (g : Nat → Int64) (r : Nat → Nat) (k : Nat) : Nat × Nat → Value
  | (0, _) => .int (f k)
  | (1, _) => .int (f k)
  | (2, o) => .ref (ad (a + o))
  | (3, _) => bif Nat.blt (r k) 142 then .ref (ad (r k)) else .null
  | (4, _) => .long (g k)
  | _ => .null
def mFs (ad : Nat → Nat) (a c : Nat) (f : Nat → Int32) (g : Nat → Int64) (r : Nat → Nat) : List Value := (List.range (mNf c)).map fun k => mFv ad a f g r k (mFt c k)
def mCr (G : mG) (a : Nat) (f : Nat → Int32) (g : Nat → Int64) (r : Nat → Nat) : Nat × Nat × Nat → va_E
  | (0, c, _) => .inr (c, mFs (gA G) a c f g r)
  | (1, n, _) => .inl (gI G, n, .inl f)
  | (2, n, _) => .inl (gB G, n, .inl f)
  | (3, n, _) => .inl (gJ G, n, .inr (.inl g))
  | (4, n, y) => .inl (gO G, n, .inr (.inr (.inr (.inr (fun j => some (gA G (a + y + 3 * j)))))))
  | _ => .inr (0, [])
def mWo (G : mG) (h : mHp) : va_W := (List.range 142).map fun a => (gA G a, mCr G a (h.1 a) (h.2.1 a) (h.2.2.1 a) (mSh a))
theorem mWo_len (G : mG) (h : mHp) : (mWo G h).length = 142 := by simp [mWo]
theorem mWo_get (G : mG) (h : mHp) {a : Nat} (ha : a < 142) : (mWo G h)[a]? = some (gA G a, mCr G a (h.1 a) (h.2.1 a) (h.2.2.1 a) (mSh a)) := by
  simp [mWo, List.getElem?_map, List.getElem?_range ha]
theorem mWo_none (G : mG) (h : mHp) {a : Nat} (ha : ¬ a < 142) : (mWo G h)[a]? = none := by
  rw [List.getElem?_eq_none_iff, mWo_len]; omega
theorem mWo_set {G : mG} {h h' : mHp} {a : Nat} (ha : a < 142) {e : va_E} (he : e = mCr G a (h'.1 a) (h'.2.1 a) (h'.2.2.1 a) (mSh a))
    (ho : ∀ x, x ≠ a → h.1 x = h'.1 x ∧ h.2.1 x = h'.2.1 x ∧ h.2.2.1 x = h'.2.2.1 x) : (mWo G h).set a (gA G a, e) = mWo G h' := by
  apply List.ext_getElem?
  intro k
  rw [List.getElem?_set]
  by_cases hk : a = k
  · subst hk
    rw [if_pos rfl, if_pos (by rw [mWo_len]; exact ha), mWo_get G h' ha, he]
  · rw [if_neg hk]
    by_cases hl : k < 142
    · obtain ⟨e1, e2, e3⟩ := ho k (fun q => hk q.symm)
      rw [mWo_get G h hl, mWo_get G h' hl, e1, e2, e3]
    · rw [mWo_none G h hl, mWo_none G h' hl]
theorem mPI_ne {h : mHp} {a k x : Nat} {v : Int32} (hx : x ≠ a) : (mPI h a k v).1 x = h.1 x := by
  funext y
  show (if x = a ∧ y = k then v else h.1 x y) = h.1 x y
  rw [if_neg (fun q => hx q.1)]
theorem mPI_at {h : mHp} {a k : Nat} {v : Int32} : (mPI h a k v).1 a = upd (h.1 a) k v := by
  funext y
  show (if a = a ∧ y = k then v else h.1 a y) = if y = k then v else h.1 a y
  by_cases hy : y = k
  · rw [if_pos ⟨rfl, hy⟩, if_pos hy]
  · rw [if_neg (fun q => hy q.2), if_neg hy]
theorem mPL_ne {h : mHp} {a k x : Nat} {v : Int64} (hx : x ≠ a) : (mPL h a k v).2.1 x = h.2.1 x := by
  funext y
  show (if x = a ∧ y = k then v else h.2.1 x y) = h.2.1 x y
  rw [if_neg (fun q => hx q.1)]
theorem mPL_at {h : mHp} {a k : Nat} {v : Int64} : (mPL h a k v).2.1 a = vp_updL (h.2.1 a) k v := by
  funext y
  show (if a = a ∧ y = k then v else h.2.1 a y) = if y = k then v else h.2.1 a y
  by_cases hy : y = k
  · rw [if_pos ⟨rfl, hy⟩, if_pos hy]
  · rw [if_neg (fun q => hy q.2), if_neg hy]
theorem mPR_ne {h : mHp} {a k x v : Nat} (hx : x ≠ a) : (mPR h a k v).2.2.1 x = h.2.2.1 x := by
  funext y
  show (if x = a ∧ y = k then v else h.2.2.1 x y) = h.2.2.1 x y
  rw [if_neg (fun q => hx q.1)]
theorem mPR_at {h : mHp} {a k v : Nat} : (mPR h a k v).2.2.1 a = fun y => if y = k then v else h.2.2.1 a y := by
  funext y
  show (if a = a ∧ y = k then v else h.2.2.1 a y) = if y = k then v else h.2.2.1 a y
  by_cases hy : y = k
  · rw [if_pos ⟨rfl, hy⟩, if_pos hy]
  · rw [if_neg (fun q => hy q.2), if_neg hy]
theorem mCp_ne {h : mHp} {sa sp da dp n x : Nat} (hx : x ≠ da) : (mCp h sa sp da dp n).1 x = h.1 x := by
  funext y
  show (if x = da ∧ dp ≤ y ∧ y < dp + n then h.1 sa (sp + (y - dp)) else h.1 x y) = h.1 x y
  rw [if_neg (fun q => hx q.1)]
theorem mCp_at {h : mHp} {sa sp da dp n : Nat} : (mCp h sa sp da dp n).1 da = va_cpy (h.1 sa) (h.1 da) sp dp n := by
  funext y
  show (if da = da ∧ dp ≤ y ∧ y < dp + n then h.1 sa (sp + (y - dp)) else h.1 da y) = if dp ≤ y ∧ y < dp + n then h.1 sa (sp + (y - dp)) else h.1 da y
  by_cases hy : dp ≤ y ∧ y < dp + n
  · rw [if_pos ⟨rfl, hy⟩, if_pos hy]
  · rw [if_neg (fun q => hy q.2), if_neg hy]
/-- a list over 0 .. n-1, one place set -/
theorem mRange_set {α : Type} (n k : Nat) (F F' : Nat → α) (v : α) (hv : k < n → F' k = v) (ho : ∀ j, j ≠ k → F' j = F j) : ((List.range n).map F).set k v = (List.range n).map F' := by
  apply List.ext_getElem?
  intro j
  rw [List.getElem?_set]
  by_cases hj : k = j
  · subst hj
    rw [if_pos rfl]
    by_cases hl : k < n
    · rw [if_pos (by simpa using hl), List.getElem?_map, List.getElem?_range hl, Option.map_some, hv hl]
    · rw [if_neg (by simpa using hl), List.getElem?_map]
      rw [List.getElem?_eq_none_iff.mpr (by simp; omega)]
      rfl
  · rw [if_neg hj, List.getElem?_map, List.getElem?_map]
    by_cases hl : j < n
    · rw [List.getElem?_range hl, Option.map_some, Option.map_some, ho j (fun q => hj q.symm)]
    · rw [List.getElem?_eq_none_iff.mpr (by simp; omega)]
      rfl
theorem mFs_get {ad : Nat → Nat} {a c k : Nat} {f : Nat → Int32} {g : Nat → Int64} {r : Nat → Nat} (hk : k < mNf c) : (mFs ad a c f g r)[k]? = some (mFv ad a f g r k (mFt c k)) := by
  simp [mFs, List.getElem?_map, List.getElem?_range hk]
theorem mFs_len {ad : Nat → Nat} {a c : Nat} {f : Nat → Int32} {g : Nat → Int64} {r : Nat → Nat} : (mFs ad a c f g r).length = mNf c := by simp [mFs]
theorem mFs_setI {ad : Nat → Nat} {a c k : Nat} {f : Nat → Int32} {g : Nat → Int64} {r : Nat → Nat} {v : Int32} (hk : (mFt c k).1 = 0 ∨ (mFt c k).1 = 1) : (mFs ad a c f g r).set k (.int v) = mFs ad a c (upd f k v) g r := by
  refine mRange_set _ _ _ _ _ (fun _ => ?_) (fun j hj => ?_)
  · obtain ⟨q1, q2, hq⟩ : ∃ x y, mFt c k = (x, y) := ⟨_, _, rfl⟩
    rw [hq] at hk ⊢
    have e : upd f k v k = v := if_pos rfl
    rcases hk with hk | hk
    · have hk : q1 = 0 := hk
      subst hk
      show Value.int (upd f k v k) = _
      rw [e]
    · have hk : q1 = 1 := hk
      subst hk
      show Value.int (upd f k v k) = _
      rw [e]
  · have e : upd f k v j = f j := if_neg hj
    unfold mFv
    split <;> first | rfl | rw [e]
theorem mFs_setL {ad : Nat → Nat} {a c k : Nat} {f : Nat → Int32} {g : Nat → Int64} {r : Nat → Nat} {v : Int64} (hk : (mFt c k).1 = 4) : (mFs ad a c f g r).set k (.long v) = mFs ad a c f (vp_updL g k v) r := by
  refine mRange_set _ _ _ _ _ (fun _ => ?_) (fun j hj => ?_)
  · obtain ⟨q1, q2, hq⟩ : ∃ x y, mFt c k = (x, y) := ⟨_, _, rfl⟩
    rw [hq] at hk ⊢
    have e : vp_updL g k v k = v := if_pos rfl
    have hk : q1 = 4 := hk
    subst hk
    show Value.long (vp_updL g k v k) = _
    rw [e]
  · have e : vp_updL g k v j = g j := if_neg hj
    unfold mFv
    split <;> first | rfl | rw [e]
theorem mFs_setR {ad : Nat → Nat} {a c k : Nat} {f : Nat → Int32} {g : Nat → Int64} {r : Nat → Nat} {v : Nat} (hk : (mFt c k).1 = 3) (hv : v < 142) : (mFs ad a c f g r).set k (.ref (ad v)) = mFs ad a c f g (fun y => if y = k then v else r y) := by
  refine mRange_set _ _ _ _ _ (fun _ => ?_) (fun j hj => ?_)
  · obtain ⟨q1, q2, hq⟩ : ∃ x y, mFt c k = (x, y) := ⟨_, _, rfl⟩
    rw [hq] at hk ⊢
    have hk : q1 = 3 := hk
    subst hk
    show (bif Nat.blt (if k = k then v else r k) 142 then Value.ref (ad (if k = k then v else r k)) else .null) = _
    rw [if_pos rfl]
    have hb : Nat.blt v 142 = true := by simp [Nat.blt]; omega
    rw [hb]
    rfl
  · have e : (if j = k then v else r j) = r j := if_neg hj
    unfold mFv
    split <;> first | rfl | simp only [e]
/-- the locals that the small machine knows, as the machine has them -/
def mPr (ad : Nat → Nat) : Nat → mLv → List (Nat × Value)
  | _, [] => []
  | i, none :: r => mPr ad (i + 1) r
  | i, some v :: r => (i, mRv ad v) :: mPr ad (i + 1) r
theorem mPr_mem {ad : Nat → Nat} : ∀ (lv : mLv) (i : Nat) (q : Nat × Value), q ∈ mPr ad i lv ↔ ∃ k v, mGet lv k = some v ∧ q = (i + k, mRv ad v) := by
  intro lv
  induction lv with
  | nil => intro i q; simp [mPr, mGet]
  | cons o r ih =>
    intro i q
    cases o with
    | none =>
      show q ∈ mPr ad (i + 1) r ↔ _
      rw [ih]
      constructor
      · rintro ⟨k, v, h1, h2⟩
        exact ⟨k + 1, v, h1, by rw [h2]; simp; omega⟩
      · rintro ⟨k, v, h1, h2⟩
        cases k with
        | zero => cases h1
        | succ k => exact ⟨k, v, h1, by rw [h2]; simp; omega⟩
    | some w =>
      show q ∈ (i, mRv ad w) :: mPr ad (i + 1) r ↔ _
      rw [List.mem_cons, ih]
      constructor
      · rintro (h | ⟨k, v, h1, h2⟩)
        · exact ⟨0, w, rfl, h⟩
        · exact ⟨k + 1, v, h1, by rw [h2]; simp; omega⟩
      · rintro ⟨k, v, h1, h2⟩
        cases k with
        | zero => cases h1; exact Or.inl h2
        | succ k => exact Or.inr ⟨k, v, h1, by rw [h2]; simp; omega⟩
theorem lv_has.less {ls : Array Slot} {n : Nat} {l l' : List (Nat × Value)} (h : lv_has ls n l) (hs : ∀ q ∈ l', q ∈ l) : lv_has ls n l' := ⟨h.1, h.2.1, fun q hq => h.2.2 q (hs q hq)⟩
theorem mLv_get {ad : Nat → Nat} {ls : Array Slot} {n : Nat} {lv : mLv} (h : lv_has ls n (mPr ad 0 lv)) {k : Nat} {v : Value} (hk : mGet lv k = some v) : ls[k]? = some (.val (mRv ad v)) :=
  h.2.2 (k, mRv ad v) ((mPr_mem lv 0 _).mpr ⟨k, v, hk, by simp⟩)
theorem mKill_ne {o : Option Value} {v : Value} (h : mKill o = some v) : o = some v ∧ (v.category == 2) = false := by
  unfold mKill at h
  split at h
  · cases h
  · cases h
  · next h1 h2 =>
    refine ⟨h, ?_⟩
    cases v with
    | long x => exact absurd h (h1 x)
    | double x => exact absurd h (h2 x)
    | _ => rfl
/-- what a store leaves: at its place the new value; elsewhere what was there, but no long that reached into the place -/
theorem mSet_get : ∀ (lv : mLv) (k : Nat) (v : Value) (j : Nat) (w : Value), mGet (mSet lv k v) j = some w → (j = k ∧ w = v) ∨ (j ≠ k ∧ mGet lv j = some w ∧ (j + 1 = k → (w.category == 2) = false)) := by
  intro lv
  induction lv with
  | nil => intro k v j w h; cases k <;> simp [mSet, mGet] at h
  | cons o r ih =>
    intro k v j w h
    match k with
    | 0 =>
      cases j with
      | zero => exact Or.inl ⟨rfl, (Option.some.inj h).symm⟩
      | succ j => exact Or.inr ⟨by omega, h, fun q => by omega⟩
    | 1 =>
      cases j with
      | zero =>
        obtain ⟨h1, h2⟩ := mKill_ne (show mKill o = some w from h)
        exact Or.inr ⟨by omega, h1, fun _ => h2⟩
      | succ j =>
        rcases ih 0 v j w h with ⟨h1, h2⟩ | ⟨h1, h2, h3⟩
        · exact Or.inl ⟨by omega, h2⟩
        · exact Or.inr ⟨by omega, h2, fun q => by omega⟩
    | k + 2 =>
      cases j with
      | zero => exact Or.inr ⟨by omega, h, fun q => by omega⟩
      | succ j =>
        rcases ih (k + 1) v j w h with ⟨h1, h2⟩ | ⟨h1, h2, h3⟩
        · exact Or.inl ⟨by omega, h2⟩
        · exact Or.inr ⟨by omega, h2, fun q => h3 (by omega)⟩
theorem mClr_get : ∀ (lv : mLv) (k j : Nat) (w : Value), mGet (mClr lv k) j = some w → j ≠ k ∧ mGet lv j = some w := by
  intro lv
  induction lv with
  | nil => intro k j w h; simp [mClr, mGet] at h
  | cons o r ih =>
    intro k j w h
    cases k with
    | zero =>
      cases j with
      | zero => cases h
      | succ j => exact ⟨by omega, h⟩
    | succ k =>
      cases j with
      | zero => exact ⟨by omega, h⟩
      | succ j =>
        obtain ⟨h1, h2⟩ := ih k j w h
        exact ⟨by omega, h2⟩
theorem mMsk_get : ∀ (bs : List Bool) (lv : mLv) (j : Nat) (w : Value), mGet (mMsk bs lv) j = some w → mGet lv j = some w := by
  intro bs lv
  induction lv generalizing bs with
  | nil => intro j w h; cases bs <;> simp [mMsk, mGet] at h
  | cons o r ih =>
    intro j w h
    match bs with
    | [] =>
      cases j with
      | zero => cases h
      | succ j => exact ih [] j w h
    | true :: bs =>
      cases j with
      | zero => exact h
      | succ j => exact ih bs j w h
    | false :: bs =>
      cases j with
      | zero => cases h
      | succ j => exact ih bs j w h
theorem mSet_len : ∀ (lv : mLv) (k : Nat) (v : Value), (mSet lv k v).length = lv.length := by
  intro lv
  induction lv with
  | nil => intro k v; cases k <;> rfl
  | cons o r ih =>
    intro k v
    match k with
    | 0 => rfl
    | 1 => show (mSet r 0 v).length + 1 = r.length + 1; rw [ih]
    | k + 2 => show (mSet r (k + 1) v).length + 1 = r.length + 1; rw [ih]
theorem mClr_len : ∀ (lv : mLv) (k : Nat), (mClr lv k).length = lv.length := by
  intro lv
  induction lv with
  | nil => intro k; cases k <;> rfl
  | cons o r ih =>
    intro k
    cases k with
    | zero => rfl
    | succ k => show (mClr r k).length + 1 = r.length + 1; rw [ih]
theorem mMsk_len : ∀ (bs : List Bool) (lv : mLv), (mMsk bs lv).length = lv.length := by
  intro bs lv
  induction lv generalizing bs with
  | nil => cases bs <;> rfl
  | cons o r ih =>
    match bs with
    | [] => show (mMsk [] r).length + 1 = r.length + 1; rw [ih]
    | true :: bs => show (mMsk bs r).length + 1 = r.length + 1; rw [ih]
    | false :: bs => show (mMsk bs r).length + 1 = r.length + 1; rw [ih]
theorem mRv_long {ad : Nat → Nat} {v : Value} {x : Int64} (h : mRv ad v = .long x) : v = .long x := by cases v <;> simp_all [mRv]
theorem mRv_cat (ad : Nat → Nat) (v : Value) : (mRv ad v).category = v.category := by cases v <;> rfl
theorem mW1_cat (v : Value) : mW1 v = v.category := by cases v <;> rfl
theorem mWd_sum (ad : Nat → Nat) (st : List Value) : ((st.map (mRv ad)).map fun v => v.category).sum = mWd st := by
  induction st with
  | nil => rfl
  | cons v r ih =>
    simp only [List.map_cons, List.sum_cons, ih, mRv_cat, mWd, mW1_cat]
/-- the new list of locals behind a store of one word, out of the kit's -/
theorem mLv_put1 {ad : Nat → Nat} {ls : Array Slot} {n : Nat} {lv : mLv} {k : Nat} {v : Value} (h : lv_has ls n ((k, mRv ad v) :: (mPr ad 0 lv).filter (fun q => !(q.1 == k) && !(q.1 + 1 == k && q.2.category == 2)))) : lv_has ls n (mPr ad 0 (mSet lv k v)) := by
  refine h.less (fun q hq => ?_)
  obtain ⟨j, w, h1, h2⟩ := (mPr_mem _ _ _).mp hq
  subst h2
  rcases mSet_get lv k v j w h1 with ⟨e1, e2⟩ | ⟨e1, e2, e3⟩
  · subst e1; subst e2
    simp
  · refine List.mem_cons_of_mem _ (List.mem_filter.mpr ⟨(mPr_mem _ _ _).mpr ⟨j, w, e2, rfl⟩, ?_⟩)
    have hj : (0 + j == k) = false := by simp; exact e1
    by_cases hk : j + 1 = k
    · have hc : ((mRv ad w).category == 2) = false := by rw [mRv_cat]; exact e3 hk
      simp only [hj, hc, Bool.and_false]
      rfl
    · have hk' : (0 + j + 1 == k) = false := by simp; exact hk
      simp only [hj, hk']
      rfl
/-- .. behind a store of a long -/
theorem mLv_put2 {ad : Nat → Nat} {ls : Array Slot} {n : Nat} {lv : mLv} {k : Nat} {x : Int64} (h : lv_has ls n ((k, Value.long x) :: (mPr ad 0 lv).filter (fun q => !(q.1 == k) && (!(q.1 == k + 1) && !(q.1 + 1 == k && q.2.category == 2))))) : lv_has ls n (mPr ad 0 (mClr (mSet lv k (.long x)) (k + 1))) := by
  refine h.less (fun q hq => ?_)
  obtain ⟨j, w, h1, h2⟩ := (mPr_mem _ _ _).mp hq
  subst h2
  obtain ⟨c1, c2⟩ := mClr_get _ _ _ _ h1
  rcases mSet_get lv k (.long x) j w c2 with ⟨e1, e2⟩ | ⟨e1, e2, e3⟩
  · subst e1; subst e2
    simp [mRv]
  · refine List.mem_cons_of_mem _ (List.mem_filter.mpr ⟨(mPr_mem _ _ _).mpr ⟨j, w, e2, rfl⟩, ?_⟩)
    have hj : (0 + j == k) = false := by simp; exact e1
    have hj1 : (0 + j == k + 1) = false := by simp; exact c1
    by_cases hk : j + 1 = k
    · have hc : ((mRv ad w).category == 2) = false := by rw [mRv_cat]; exact e3 hk
      simp only [hj, hj1, hc, Bool.and_false]
      rfl
    · have hk' : (0 + j + 1 == k) = false := by simp; exact hk
      simp only [hj, hj1, hk']
      rfl
theorem mSl_args (ad : Nat → Nat) : ∀ (args : List Value) (i : Nat), mPr ad i (mSl args) = lv_args i (args.map (mRv ad)) := by
  intro args
  induction args with
  | nil => intro i; rfl
  | cons v r ih =>
    intro i
    cases v with
    | long x =>
      show (i, mRv ad (.long x)) :: mPr ad (i + 1 + 1) (mSl r) = (i, mRv ad (.long x)) :: lv_args (i + 2) (r.map (mRv ad))
      rw [ih]
    | double x =>
      show (i, mRv ad (.double x)) :: mPr ad (i + 1 + 1) (mSl r) = (i, mRv ad (.double x)) :: lv_args (i + 2) (r.map (mRv ad))
      rw [ih]
    | int x =>
      show (i, mRv ad (.int x)) :: mPr ad (i + 1) (mSl r) = (i, mRv ad (.int x)) :: lv_args (i + 1) (r.map (mRv ad))
      rw [ih]
    | float x =>
      show (i, mRv ad (.float x)) :: mPr ad (i + 1) (mSl r) = (i, mRv ad (.float x)) :: lv_args (i + 1) (r.map (mRv ad))
      rw [ih]
    | null =>
      show (i, mRv ad (.null)) :: mPr ad (i + 1) (mSl r) = (i, mRv ad (.null)) :: lv_args (i + 1) (r.map (mRv ad))
      rw [ih]
    | ref x =>
      show (i, mRv ad (.ref x)) :: mPr ad (i + 1) (mSl r) = (i, mRv ad (.ref x)) :: lv_args (i + 1) (r.map (mRv ad))
      rw [ih]
    | retAddr x =>
      show (i, mRv ad (.retAddr x)) :: mPr ad (i + 1) (mSl r) = (i, mRv ad (.retAddr x)) :: lv_args (i + 1) (r.map (mRv ad))
      rw [ih]
theorem mPad_get : ∀ (n : Nat) (lv : mLv) (j : Nat) (w : Value), mGet (mPad n lv) j = some w → mGet lv j = some w := by
  intro n
  induction n with
  | zero => intro lv j w h; simp [mPad, mGet] at h
  | succ n ih =>
    intro lv j w h
    cases lv with
    | nil =>
      cases j with
      | zero => cases h
      | succ j =>
        have := ih [] j w h
        simp [mGet] at this
    | cons o r =>
      cases j with
      | zero => exact h
      | succ j => exact ih r j w h
theorem mPad_len : ∀ (n : Nat) (lv : mLv), (mPad n lv).length = n := by
  intro n
  induction n with
  | zero => intro lv; rfl
  | succ n ih =>
    intro lv
    cases lv with
    | nil => show (mPad n []).length + 1 = n + 1; rw [ih]
    | cons o r => show (mPad n r).length + 1 = n + 1; rw [ih]
theorem mSlots_len (ad : Nat → Nat) (args : List Value) : (lg_sl (args.map (mRv ad))).length = mWd args := by
  induction args with
  | nil => rfl
  | cons v r ih =>
    have e : lg_sl ((v :: r).map (mRv ad)) = (if (mRv ad v).category = 2 then [Slot.val (mRv ad v), .second] else [.val (mRv ad v)]) ++ lg_sl (r.map (mRv ad)) := rfl
    rw [e, List.length_append, ih]
    cases v <;> rfl
theorem mEnt_has (ad : Nat → Nat) (args : List Value) {n : Nat} (h : mWd args ≤ n) : lv_has ((lg_sl (args.map (mRv ad)) ++ List.replicate (n - (lg_sl (args.map (mRv ad))).length) Slot.unset).toArray) n (mPr ad 0 (mEnt n args)) := by
  refine (lv_entry (args.map (mRv ad)) (n := n) (by rw [mSlots_len]; exact h)).less (fun q hq => ?_)
  obtain ⟨j, w, h1, h2⟩ := (mPr_mem _ _ _).mp hq
  rw [← mSl_args]
  exact (mPr_mem _ _ _).mpr ⟨j, w, mPad_get _ _ _ _ h1, h2⟩
