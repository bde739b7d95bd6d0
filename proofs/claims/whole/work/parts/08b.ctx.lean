/-! SOUNDNESS, part 2: what a method's walk stands on, and what a run of the small machine means -/
def mTys (G : mG) : List (ClassId × FieldType) := [(gI G, .int), (gB G, .byte), (gJ G, .long), (gO G, .object "TasterTable$Plan")]
def mDec : List MethodName := [Bundle.initS "java/lang/RuntimeException", Bundle.initS "java/lang/Exception", Bundle.initS "java/lang/Throwable"]
def mHad : MethodName := ⟨"TasterTable", "hadIndex", "(II)I"⟩
def mSLen : List Nat := (List.range 14).map fun i => (mStr i).length
def mSByt : List (List Int32) := (List.range 14).map fun i => (mStr i).map nI
/-- the texts that the reader asks for, and what String's own code reads -/
def mStS (G : mG) (U : State) (H : Heap) : Prop :=
  (∀ i, i < 14 → vk_R RX6 (mSi i) (mTt i) (gA G (144 + i)) U) ∧ vk_S 14 mSLen mSByt (fun i => gA G (144 + i)) (gV G) (mA G) U H ∧
  va_Z "java/lang/String" "COMPACT_STRINGS" "Z" (.int 1) (mA G) U H ∧ va_Zq "jdk/internal/util/Preconditions" "SIOOBE_FORMATTER" "Ljava/util/function/BiFunction;" (mA G) U H
/-- what stays the same all along -/
def mSt (G : mG) (U : State) (H : Heap) : Prop :=
  va_K (gD G) vwCl (mTys G) U ∧ (va_X (gA G 142) (gL G) (gX G) U H ∧ ¬ mA G (gA G 142)) ∧
  (va_Z RX5 "NOTES_FROM" "[I" (.ref (gA G 143)) (mA G) U H ∧ va_T .int (gA G 143) 5 (fun j => .int (mNo j)) (mA G) U H) ∧
  (vx_Zq Bundle.tN "UNASSIGNED_STACK" Bundle.steD (mA G) U H ∧ vx_Zq Bundle.tN "SUPPRESSED_SENTINEL" Bundle.listD (mA G) U H) ∧
  (∀ q ∈ mTx, ∃ sa, vk_R RX7 q.1 q.2 sa U) ∧ mStS G U H ∧
  (va_Nw (.castable (mEn 0) (mEn 0)) U ∧ va_Nw (.castable (mEn 1) (mEn 1)) U ∧ va_Nc (mEn 0) (mEn 1) U) ∧
  (∀ q ∈ mNest, va_Nw (.methodLinkNest q.1 q.2 mHad "TasterTable") U) ∧ (∀ q ∈ mDec, va_Nw (.declares q) U)
theorem mStS_kept {G : mG} {U : State} {H H1 : Heap} (h : mStS G U H) (hq : ∀ a : Nat, a < H.size → ¬ mA G a → H1[a]? = H[a]?) : mStS G U H1 :=
  ⟨h.1, h.2.1.kept hq, h.2.2.1.kept hq, va_Zq.kept h.2.2.2 hq⟩
theorem mStS_moved {G : mG} {u U : State} {H : Heap} (hW : u.WarmedH U.vm) (h : mStS G u H) : mStS G U H :=
  ⟨fun i hi => vk_R.warm hW (h.1 i hi), h.2.1.moved hW.alike, va_Z.moved hW.alike h.2.2.1, va_Zq.moved hW.alike h.2.2.2⟩
theorem mSt_kept {G : mG} {U : State} {H H1 : Heap} (h : mSt G U H) (hq : ∀ a : Nat, a < H.size → ¬ mA G a → H1[a]? = H[a]?) : mSt G U H1 := by
  obtain ⟨h1, ⟨h2, h2'⟩, ⟨h3, h3'⟩, ⟨h4, h4'⟩, h5, h6, h7, h8⟩ := h
  refine ⟨h1, ⟨h2.kept ?_, h2'⟩, ⟨h3.kept hq, h3'.kept hq⟩, ⟨h4.kept hq, h4'.kept hq⟩, h5, mStS_kept h6 hq, h7, h8⟩
  obtain ⟨scr, e1, -⟩ := h2
  exact hq _ (Array.getElem?_eq_some_iff.mp e1).1 h2'
theorem mSt_moved {G : mG} {u U : State} {H : Heap} (hW : u.WarmedH U.vm) (h : mSt G u H) : mSt G U H := by
  obtain ⟨h1, ⟨h2, h2'⟩, ⟨h3, h3'⟩, ⟨h4, h4'⟩, h5, h6, ⟨h7, h7', h7''⟩, h8⟩ := h
  exact ⟨va_K.moved hW.alike h1, ⟨h2.moved hW.alike, h2'⟩, ⟨va_Z.moved hW.alike h3, va_T.moved hW.alike h3'⟩, ⟨vx_Zq.moved hW.alike h4, vx_Zq.moved hW.alike h4'⟩,
    fun q hq => (h5 q hq).imp fun _ z => vk_R.warm hW z, mStS_moved hW h6, ⟨va_Nw.warmC hW h7, va_Nw.warmC hW h7', h7''.moved hW.alike⟩, fun q hq => va_Nw.warmM hW (h8.1 q hq), fun q hq => va_Nw.warmD hW (h8.2 q hq)⟩
/-- the script and the planner's table, as the small machine's heap has them -/
def mHx (G : mG) (h : mHp) : Prop := (∀ j, j < gL G → h.1 142 j = gX G j) ∧ h.2.2.1 142 0 = gL G ∧ ∀ j, j < 5 → h.1 143 j = mNo j
theorem mHx_of {G : mG} {h h' : mHp} (hx : mHx G h) (e1 : h'.1 142 = h.1 142) (e2 : h'.1 143 = h.1 143) (e3 : h'.2.2.1 142 = h.2.2.1 142) : mHx G h' :=
  ⟨fun j hj => by rw [e1]; exact hx.1 j hj, by rw [e3]; exact hx.2.1, fun j hj => by rw [e2]; exact hx.2.2 j hj⟩
def mOh : mOut → mHp
  | .inl q => q.2
  | .inr q => q.2
def mWl (G : mG) (h : mHp) (H : Heap) : Prop := va_P (gD G) vwCl (mWo G h) H ∧ va_D (mA G) (mWo G h) ∧ mHx G h
def mPo (G : mG) (h : mHp) (t : State) : Prop := mWl G h t.heap
def mQc (G : mG) (out : mOut) : Array Value → State → Outcome → State → Prop := fun _ st oc t => ∃ (v : Option Value) (h' : mHp), out = .inl (v, h') ∧ oc = .returned (v.map (mRv (gA G))) ∧ mPo G h' t ∧ va_F (mA G) st t
def mXq (G : mG) (out : mOut) : String → State → State → Prop := fun E st t => ∃ (k : Nat) (h' : mHp), out = .inr (k, h') ∧ k < 2 ∧ E = mEn k ∧ mPo G h' t ∧ va_F (mA G) st t
def mQ (G : mG) (below : List Frame) (args : Array Value) (s : State) (mc ms : Nat) (out : mOut) : State → Prop := vx_MQ below (mQc G out) (mXq G out) args s mc ms (mA G)
def mCx (G : mG) (l : Launch) (p : Program) (s : State) (mid : MethodId) (args : Array Value) (meth : Method) (c : Code) (m : Nat) : Prop :=
  p.tables.exec = Jvm.exec ∧ c.code = mBy m ∧ c.maxLocals = (mMt m).1 ∧ meth.sig.returnType = mRt m ∧ s.vm.findClass (mY m).cls = some mid.cls ∧ (∀ w ∈ mBIG, w.before args s = true) ∧ meth.locks = false ∧
  c.exceptionTable.toList = tableOf (mHh m) ∧ l.stackTraces = false ∧ mSt G s s.heap ∧ gZ G ≤ s.heap.size
def mLc (G : mG) (m : Nat) (lv : mLv) (ls : Array Slot) : Prop := lv.length = (mMt m).1 ∧ lv_has ls (mMt m).1 (mPr (gA G) 0 lv)
def mRm (R : Room) (d cells slots mc ms : Nat) (h : mHp) (out : mOut) : Prop :=
  d + 10 ≤ R.frames ∧ 100 * d + 300 ≤ R.locals ∧ mc ≤ R.cells ∧ ms ≤ R.slots ∧ cells + (mOh out).2.2.2 ≤ mc + h.2.2.2 ∧ slots + 6 * (mOh out).2.2.2 ≤ ms + 6 * h.2.2.2
/-- what a run of the small machine says of the machine -/
def mP0 (G : mG) (l : Launch) : mP := fun d m pc lv st h out =>
  ∀ (p : Program) (e : Env) (R : Room) (s : State) (mid : MethodId) (args : Array Value) (below : List Frame) (meth : Method) (c : Code) (H : Heap) (locs : List Loc) (cells slots mc ms : Nat) (ls : Array Slot),
    mCx G l p s mid args meth c m → mLc G m lv ls → mWl G h H → va_S (mA G) s.heap H locs → mRm R d cells slots mc ms h out →
    W p l e R s mid args below meth c H locs cells slots (mQ G below args s mc ms out) (F0 mid pc ls (st.map (mRv (gA G))))
def mP1 (G : mG) (l : Launch) : mP := fun d m pc lv st h out => h.2.2.2 ≤ (mOh out).2.2.2 ∧ mP0 G l d m pc lv st h out
theorem mAnd {a b : Bool} (h : (a && b) = true) : a = true ∧ b = true := by rwa [Bool.and_eq_true] at h
theorem mBlt {a b : Nat} (h : Nat.blt a b = true) : a < b := by simp only [Nat.blt] at h; exact Nat.lt_of_succ_le (Nat.le_of_ble_eq_true h)
theorem mBltF {a b : Nat} (h : b ≤ a) : Nat.blt a b = false := by
  cases hb : Nat.blt a b with
  | true => exact absurd (mBlt hb) (Nat.not_lt.mpr h)
  | false => rfl
/-! the shapes of the stack -/
theorem mI1_e {K : Int32 → List Value → Prop} {st : List Value} (h : mI1 K st) : ∃ x r, st = .int x :: r ∧ K x r := by
  unfold mI1 at h; split at h
  · exact ⟨_, _, rfl, h⟩
  · exact h.elim
theorem mI2_e {K : Int32 → Int32 → List Value → Prop} {st : List Value} (h : mI2 K st) : ∃ x y r, st = .int y :: .int x :: r ∧ K x y r := by
  unfold mI2 at h; split at h
  · exact ⟨_, _, _, rfl, h⟩
  · exact h.elim
theorem mL1_e {K : Int64 → List Value → Prop} {st : List Value} (h : mL1 K st) : ∃ x r, st = .long x :: r ∧ K x r := by
  unfold mL1 at h; split at h
  · exact ⟨_, _, rfl, h⟩
  · exact h.elim
theorem mL2_e {K : Int64 → Int64 → List Value → Prop} {st : List Value} (h : mL2 K st) : ∃ x y r, st = .long y :: .long x :: r ∧ K x y r := by
  unfold mL2 at h; split at h
  · exact ⟨_, _, _, rfl, h⟩
  · exact h.elim
theorem mIL_e {K : Int64 → Int32 → List Value → Prop} {st : List Value} (h : mIL K st) : ∃ x y r, st = .int y :: .long x :: r ∧ K x y r := by
  unfold mIL at h; split at h
  · exact ⟨_, _, _, rfl, h⟩
  · exact h.elim
theorem mR1_e {K : Nat → List Value → Prop} {st : List Value} (h : mR1 K st) : ∃ x r, st = .ref x :: r ∧ K x r := by
  unfold mR1 at h; split at h
  · exact ⟨_, _, rfl, h⟩
  · exact h.elim
theorem mIR_e {K : Int32 → Nat → List Value → Prop} {st : List Value} (h : mIR K st) : ∃ x y r, st = .int x :: .ref y :: r ∧ K x y r := by
  unfold mIR at h; split at h
  · exact ⟨_, _, _, rfl, h⟩
  · exact h.elim
theorem mIIR_e {K : Int32 → Int32 → Nat → List Value → Prop} {st : List Value} (h : mIIR K st) : ∃ x i y r, st = .int x :: .int i :: .ref y :: r ∧ K x i y r := by
  unfold mIIR at h; split at h
  · exact ⟨_, _, _, _, rfl, h⟩
  · exact h.elim
theorem mLIR_e {K : Int64 → Int32 → Nat → List Value → Prop} {st : List Value} (h : mLIR K st) : ∃ x i y r, st = .long x :: .int i :: .ref y :: r ∧ K x i y r := by
  unfold mLIR at h; split at h
  · exact ⟨_, _, _, _, rfl, h⟩
  · exact h.elim
theorem mLR_e {K : Int64 → Nat → List Value → Prop} {st : List Value} (h : mLR K st) : ∃ x y r, st = .long x :: .ref y :: r ∧ K x y r := by
  unfold mLR at h; split at h
  · exact ⟨_, _, _, rfl, h⟩
  · exact h.elim
theorem mRR_e {K : Nat → Nat → List Value → Prop} {st : List Value} (h : mRR K st) : ∃ x y r, st = .ref x :: .ref y :: r ∧ K x y r := by
  unfold mRR at h; split at h
  · exact ⟨_, _, _, rfl, h⟩
  · exact h.elim
theorem mCpy_e {K : Int32 → Int32 → Nat → Int32 → Nat → List Value → Prop} {st : List Value} (h : mCpy K st) : ∃ n dp da sp sa r, st = .int n :: .int dp :: .ref da :: .int sp :: .ref sa :: r ∧ K n dp da sp sa r := by
  unfold mCpy at h; split at h
  · exact ⟨_, _, _, _, _, _, rfl, h⟩
  · exact h.elim
theorem mGi_e {K : Int32 → Prop} {o : Option Value} (h : mGi K o) : ∃ x, o = some (.int x) ∧ K x := by
  unfold mGi at h; split at h
  · exact ⟨_, rfl, h⟩
  · exact h.elim
theorem mGl_e {K : Int64 → Prop} {o : Option Value} (h : mGl K o) : ∃ x, o = some (.long x) ∧ K x := by
  unfold mGl at h; split at h
  · exact ⟨_, rfl, h⟩
  · exact h.elim
theorem mGr_e {K : Nat → Prop} {o : Option Value} (h : mGr K o) : ∃ x, o = some (.ref x) ∧ K x := by
  unfold mGr at h; split at h
  · exact ⟨_, rfl, h⟩
  · exact h.elim
theorem mTrue_e {K : Prop} {b : Bool} (h : mTrue K b) : b = true ∧ K := by
  cases b
  · exact h.elim
  · exact ⟨rfl, h⟩
theorem mOb_e {K : Prop} {c : Nat} {s : Nat × Nat × Nat} (h : mOb K c s) : (∃ z, s = (0, c, z)) ∧ K := by
  unfold mOb at h; split at h
  · next c' z =>
    obtain ⟨h1, h2⟩ := mTrue_e h
    rw [Nat.eq_of_beq_eq_true h1]
    exact ⟨⟨z, rfl⟩, h2⟩
  · exact h.elim
theorem mAr_e {t : Nat} {K : Nat → Nat → Prop} {s : Nat × Nat × Nat} (h : mAr t K s) : ∃ n y, s = (t, n, y) ∧ K n y := by
  obtain ⟨t', n, y⟩ := s
  obtain ⟨h1, h2⟩ := mTrue_e (show mTrue (K n y) (Nat.beq t' t) from h)
  rw [Nat.eq_of_beq_eq_true h1]
  exact ⟨n, y, rfl, h2⟩
theorem mTk_e {K : List Value → List Value → Prop} : ∀ (n : Nat) (acc st : List Value), mTk n acc st K → ∃ as r, as.length = n ∧ st = as.reverse ++ r ∧ K (as ++ acc) r := by
  intro n
  induction n with
  | zero => intro acc st h; exact ⟨[], st, rfl, rfl, h⟩
  | succ n ih =>
    intro acc st h
    cases st with
    | nil => exact h.elim
    | cons v st =>
      obtain ⟨as, r, h1, h2, h3⟩ := ih (v :: acc) st h
      exact ⟨as ++ [v], r, by simp [h1], by simp [h2], by simpa using h3⟩
/-- places below 142: cells of the world -/
theorem mSh_lt {a : Nat} {t n y : Nat} (h : mSh a = (t, n, y)) (ht : t < 5) : a < 142 := by
  have key : ∀ b, b < 158 → 142 ≤ b → 5 ≤ (mSh b).1 := by decide +kernel
  rcases Nat.lt_or_ge a 142 with q | q
  · exact q
  · rcases Nat.lt_or_ge a 158 with q2 | q2
    · have := key a q2 q
      rw [h] at this
      exact absurd ht (Nat.not_lt.mpr this)
    · have e : Nat.blt a 158 = false := mBltF q2
      have : mSh a = (9, 0, 0) := by unfold mSh; rw [e]; rfl
      rw [this] at h
      cases h
      omega
